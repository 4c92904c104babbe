def car (f : Nat → Int32) (p q n : Nat) (v : Int32) : Nat → Int32 := fun x => if q ≤ x ∧ x < q + n then f (p + (x - q)) else if p ≤ x ∧ x < p + n then v else f x
theorem car_y (f : Nat → Int32) {p q n x : Nat} (v : Int32) (h : q ≤ x ∧ x < q + n) : car f p q n v x = f (p + (x - q)) := if_pos h
theorem car_v (f : Nat → Int32) {p q n x : Nat} (v : Int32) (h : ¬ (q ≤ x ∧ x < q + n)) (h' : p ≤ x ∧ x < p + n) : car f p q n v x = v := by unfold car; rw [if_neg h, if_pos h']
theorem car_n (f : Nat → Int32) {p q n x : Nat} (v : Int32) (h : ¬ (q ≤ x ∧ x < q + n)) (h' : ¬ (p ≤ x ∧ x < p + n)) : car f p q n v x = f x := by unfold car; rw [if_neg h, if_neg h']
theorem car_0 (f : Nat → Int32) (p q : Nat) (v : Int32) : car f p q 0 v = f := by funext x; exact car_n f v (by omega) (by omega)
theorem car_s (f : Nat → Int32) {p q n M : Nat} (v : Int32) (hn : n < M) (h : q < p ∨ p + M ≤ q) : upd (upd (car f p q n v) (p + n) v) (q + n) (car f p q n v (p + n)) = car f p q (n + 1) v := by
  have e0 : car f p q n v (p + n) = f (p + n) := car_n f v (by omega) (by omega)
  rw [e0]
  funext x
  by_cases e : x = q + n
  · rw [e, upd_s, car_y _ _ (by omega)]; congr 1; omega
  · rw [upd_n _ _ e]
    by_cases e' : x = p + n
    · rw [e', upd_s, car_v _ _ (by omega) (by omega)]
    · rw [upd_n _ _ e']
      by_cases h1 : q ≤ x ∧ x < q + n
      · rw [car_y _ _ h1, car_y _ _ (by omega)]
      · by_cases h2 : p ≤ x ∧ x < p + n
        · rw [car_v _ _ h1 h2, car_v _ _ (by omega) (by omega)]
        · rw [car_n _ _ h1 h2, car_n _ _ (by omega) (by omega)]
theorem e_carry {σ : xS} {s c : Nat → Int32} {p q m : Nat} (hp : p + m < 640) (hq : q + m < 640) (hpq : q < p ∨ p + m < q) (hm : c p &&& 15 = nI m) (Q : xS → Prop) (h : Q (hp2 σ (car s p q (m + 1) 4) (car c p q (m + 1) 0))) : p_Hea_carry (nI p) (nI q) (hp2 σ s c) Q := by
  unfold p_Hea_carry p_Hea_sizeOf p_Hea_fieldsOf
  simp (disch := omega) only [forall_eq, true_and, and_true, and_self, not_true_eq_false, not_false_eq_true, false_imp_iff, true_imp_iff, imp_self, implies_true, ne_eq, reduceIte, cl, cl0, cl1, cl2, vpn, vp0, le8, le16, le40, le640, le1400, le6400, lt8, lt16, le15, le2, nI_leI, nI_ltI, nI_eq, nI_1, nI_add, n_le0, n_lt0, n_0le, n_eq0, n_eq1, n_eq2, n_m1, n_m1r, Nat.reduceEqDiff, Nat.reduceAdd, Int32.add_zero, nI_pred, div16, mul15, mul40, mul16, mul640, mulr16, xu_s, xu_c, xu_k, xu_cc, rows_xu, xf_s, xf_c, rows_xf, xul_c, rows_xul, xul_L, lgc, hm]
  have key := lpF (fun f i => p_Hea_carry_L9 Q f (nI p) (nI q) (nI (m + 1)) (nI i) (hp2 σ (car s p q i 4) (car c p q i 0))) (m + 1) (by
    intro f i hi hk
    show b_Hea_carry_L9 (p_Hea_carry_L9 Q f) Q (nI p) (nI q) (nI (m + 1)) (nI i) _
    unfold b_Hea_carry_L9 p_Val_sortOf_19 p_Val_contentOf_19 p_Val_assign_19
    have l1 : ¬ m + 1 ≤ i := by omega
    have k1 := car_s s (p := p) (q := q) (n := i) (M := m + 1) 4 hi (by omega)
    have k2 := car_s c (p := p) (q := q) (n := i) (M := m + 1) 0 hi (by omega)
    rw [← k1, ← k2] at hk
    simp (disch := omega) only [forall_eq, true_and, and_true, and_self, not_true_eq_false, not_false_eq_true, false_imp_iff, true_imp_iff, imp_self, implies_true, ne_eq, reduceIte, cl, cl0, cl1, cl2, vpn, vp0, le8, le16, le40, le640, le1400, le6400, lt8, lt16, le15, le2, nI_leI, nI_ltI, nI_eq, nI_1, nI_add, n_le0, n_lt0, n_0le, n_eq0, n_eq1, n_eq2, n_m1, n_m1r, Nat.reduceEqDiff, Nat.reduceAdd, Int32.add_zero, nI_pred, div16, mul15, mul40, mul16, mul640, mulr16, xu_s, xu_c, xu_k, xu_cc, rows_xu, xf_s, xf_c, rows_xf, xul_c, rows_xul, xul_L, lgc, l1, hp2_s, xu_xf]
    exact hk) (by
    intro f
    show b_Hea_carry_L9 (p_Hea_carry_L9 Q f) Q (nI p) (nI q) (nI (m + 1)) (nI (m + 1)) _
    unfold b_Hea_carry_L9
    simp (disch := omega) only [forall_eq, true_and, and_true, and_self, not_true_eq_false, not_false_eq_true, false_imp_iff, true_imp_iff, imp_self, implies_true, ne_eq, reduceIte, cl, cl0, cl1, cl2, vpn, vp0, le8, le16, le40, le640, le1400, le6400, lt8, lt16, le15, le2, nI_leI, nI_ltI, nI_eq, nI_1, nI_add, n_le0, n_lt0, n_0le, n_eq0, n_eq1, n_eq2, n_m1, n_m1r, Nat.reduceEqDiff, Nat.reduceAdd, Int32.add_zero, nI_pred, div16, mul15, mul40, mul16, mul640, mulr16, xu_s, xu_c, xu_k, xu_cc, rows_xu, xf_s, xf_c, rows_xf, xul_c, rows_xul, xul_L, lgc, Nat.le_refl]
    exact h)
  rw [car_0, car_0] at key
  exact key
theorem HeapR_m {s c : Nat → Int32} {A : Nat → Prop} {pl mn : Nat → Nat} {hd : Nat → Int32} {fs fc : Nat → Nat → Int32} (h : HeapR s c A pl mn hd fs fc) (hdis : lDis A pl mn) {u q : Nat} (hu : A u) (hf : ∀ o, A o → o ≠ u → pl o + mn o < q ∨ q + mn u < pl o) :
    HeapR (car s (pl u) q (mn u + 1) 4) (car c (pl u) q (mn u + 1) 0) A (va_up pl u q) mn hd fs fc := by
  refine ⟨fun o ho => ?_, fun o i ho hi => ?_, fun p hp hfr => ?_⟩
  · by_cases e : o = u
    · rw [e, vu_s, car_y _ _ (by omega), car_y _ _ (by omega), show pl u + (q - q) = pl u by omega]
      exact h.1 u hu
    · have a := hf o ho e
      have b := hdis o u ho hu e
      rw [vu_n _ _ e, car_n _ _ (by omega) (by omega), car_n _ _ (by omega) (by omega)]
      exact h.1 o ho
  · by_cases e : o = u
    · subst e
      rw [vu_s, car_y _ _ (by omega), car_y _ _ (by omega), show pl o + (q + 1 + i - q) = pl o + 1 + i by omega]
      exact h.2.1 o i hu hi
    · have a := hf o ho e
      have b := hdis o u ho hu e
      rw [vu_n _ _ e, car_n _ _ (by omega) (by omega), car_n _ _ (by omega) (by omega)]
      exact h.2.1 o i ho hi
  · have a := hfr u hu
    rw [vu_s] at a
    by_cases hin : pl u ≤ p ∧ p < pl u + (mn u + 1)
    · rw [car_v _ _ (by omega) hin, car_v _ _ (by omega) hin]; exact ⟨rfl, rfl⟩
    · rw [car_n _ _ (by omega) hin, car_n _ _ (by omega) hin]
      refine h.2.2 p hp (fun o ho => ?_)
      by_cases e : o = u
      · rw [e]; omega
      · have := hfr o ho
        rw [vu_n _ _ e] at this
        exact this
theorem SI_all {A B : Nat → Prop} {mn ro pl : Nat → Nat} {m : Nat} (h : SH A B mn ro pl m) : ∀ j, j ≤ 16 * m → SI A B mn ro pl m j (slS A mn ro pl j).1 (slS A mn ro pl j).2.1 (slS A mn ro pl j).2.2.1 := by
  intro j
  induction j with
  | zero => intro _; exact SI_0 h
  | succ j ih =>
    intro hj
    have hI := ih (by omega)
    by_cases hx : ∃ o, A o ∧ pl o = rpos ro j
    · obtain ⟨u, u1, u2⟩ := hx
      have uq : ∀ q, A q → pl q = rpos ro j → q = u := fun q hq e => by
        by_cases x : q = u
        · exact x
        · have := h.dis q u (h.ab q hq) (h.ab u u1) x; omega
      obtain ⟨y, y1, y2, y3, y4, y5⟩ := SI_to h hI (by omega) (h.ab u u1) u2
      rw [slS_y u1 u2 uq]
      unfold slP
      by_cases hov : 16 < (slS A mn ro pl j).2.1 + (mn u + 1)
      · rw [if_pos hov]
        obtain ⟨z1, z2, z3⟩ := y3 hov
        rw [← z2]
        dsimp only
        exact (SI_y h hI (by omega) u1 u2 y1 y2 y5 (by omega) ⟨by omega, by omega⟩ (by omega)).1
      · rw [if_neg hov]
        obtain ⟨z1, z2, z3⟩ := y4 hov
        rw [← z3]
        dsimp only
        exact (SI_y h hI (by omega) u1 u2 y1 y2 y5 z1 ⟨by omega, by omega⟩ (by omega)).1
    · have hn : ∀ o, A o → pl o ≠ rpos ro j := fun o a b => hx ⟨o, a, b⟩
      rw [slS_n hn]
      exact SI_n hI hn
def SE (σ : xS) (r : Nat) (A B : Nat → Prop) (mn ro pl plO : Nat → Nat) (m : Nat) (hd : Nat → Int32) (fs : Nat → Nat → Int32) : Prop :=
  r < 8 ∧ m ≤ 40 ∧ (∀ k, k < m → σ (32 + r) k = nI (ro k) ∧ ro k < 40) ∧ (∀ o, B o → o < 640 ∧ pl o + mn o < 640 ∧ mn o < 16 ∧ hd o &&& 15 = nI (mn o) ∧ plO o < 640 ∧ ∀ i, i < mn o → fs o i ≠ 3) ∧
  lvw B plO A (σ 26) ∧ (∀ o x, B o → x < 16 * m → pl o = rpos ro x → plO o = pl o) ∧ (∀ o q, B o → B q → plO o = plO q → o = q)
def SC (σ τ : xS) (r : Nat) (A B : Nat → Prop) (mn ro pl plO : Nat → Nat) (j : Nat) (hd : Nat → Int32) (fs fc : Nat → Nat → Int32) : Prop :=
  HeapR (τ 28) (τ 29) (fun o => B o ∧ (A o ∨ ¬ prc ro pl j o)) (slS A mn ro pl j).2.2.1 mn hd fs fc ∧ (∀ o, A o → τ 10 (plO o) = nI ((slS A mn ro pl j).2.2.1 o)) ∧
  (τ 22 r = nI (slS A mn ro pl j).1 ∧ τ 23 r = nI (slS A mn ro pl j).2.1) ∧ τ 2 4 = σ 2 4 + nI (slS A mn ro pl j).2.2.2 ∧
  (∃ gd, τ 2 3 = σ 2 3 + nI gd ∧ gd + cnt (fun o => (B o ∧ (A o ∨ ¬ prc ro pl j o)) ∧ ¬ A o) 640 = cnt (fun o => B o ∧ ¬ A o) 640) ∧
  (∀ d, d ≠ 28 → d ≠ 29 → d ≠ 10 → d ≠ 22 → d ≠ 23 → d ≠ 2 → τ d = σ d) ∧ (∀ k, k ≠ r → τ 22 k = σ 22 k ∧ τ 23 k = σ 23 k) ∧ (∀ k, k ≠ 3 → k ≠ 4 → τ 2 k = σ 2 k)
theorem add_nI (x : Int32) (k : Nat) : x + nI k + 1 = x + nI (k + 1) := by rw [Int32.add_assoc, nI_1]
theorem hp2_e (τ : xS) (s c : Nat → Int32) : hp2 τ s c 28 = s ∧ hp2 τ s c 29 = c ∧ ∀ d, d ≠ 28 → d ≠ 29 → hp2 τ s c d = τ d := by
  refine ⟨?_, ?_, fun d h1 h2 => ?_⟩
  · show va_up (va_up τ 28 s) 29 c 28 = s; rw [xf_c _ _ _ (by decide), xf_s]
  · show va_up (va_up τ 28 s) 29 c 29 = c; rw [xf_s]
  · show va_up (va_up τ 28 s) 29 c d = τ d; rw [xf_c _ _ _ h2, xf_c _ _ _ h1]
theorem e_slStep {σ τ : xS} {r : Nat} {A B : Nat → Prop} {mn ro pl plO : Nat → Nat} {m j : Nat} {hd : Nat → Int32} {fs fc : Nat → Nat → Int32} (hE : SE σ r A B mn ro pl plO m hd fs) (hH : SH A B mn ro pl m) (hj : j < 16 * m) (hC : SC σ τ r A B mn ro pl plO j hd fs fc) (Q : xS → Prop)
    (h : ∀ τ', SC σ τ' r A B mn ro pl plO (j + 1) hd fs fc → Q τ') : p_Hea_isObject (nI (rpos ro j)) τ (fun r11 σ10 => ((r11 = 0 → Q σ10) ∧ (¬ r11 = 0 → p_Col_slideOrErase (nI r) (nI (rpos ro j)) σ10 Q))) := by
  obtain ⟨E1, E2, E3, E4, E5, E6, E7⟩ := hE
  obtain ⟨C1, C2, ⟨C3, C3'⟩, C4, ⟨gd, C5, C5'⟩, C6, C7, C8⟩ := id hC
  have hI := SI_all hH j (by omega)
  have hr4 := (E3 (j / 16) (by omega)).2
  have hp6 : rpos ro j < 640 := by unfold rpos; omega
  have f26 : τ 26 = σ 26 := C6 26 (by decide) (by decide) (by decide) (by decide) (by decide) (by decide)
  have npr : ∀ o, B o → pl o = rpos ro j → ¬ prc ro pl j o := fun o _ e ⟨x, hx, ex⟩ => rpos_ne hH.inj (show x ≠ j by omega) (by omega) hj (by rw [← ex, e])
  have pr1 : ∀ o, pl o ≠ rpos ro j → (prc ro pl (j + 1) o ↔ prc ro pl j o) := fun o hne => ⟨fun ⟨x, hx, ex⟩ => ⟨x, by
    have : x ≠ j := fun e => hne (by rw [ex, e])
    omega, ex⟩, fun ⟨x, hx, ex⟩ => ⟨x, by omega, ex⟩⟩
  unfold p_Hea_isObject p_Val_sortOf_19
  by_cases e3 : τ 28 (rpos ro j) = 3
  · obtain ⟨u, ⟨u1, u2⟩, u3⟩ := HeapR_h C1 (fun o i ho hi => (E4 o ho.1).2.2.2.2.2 i hi) hp6 e3
    have nu : ¬ (A u ∧ prc ro pl j u) := fun hx => by
      obtain ⟨x, y, x1, x2, x3, x4, x5, x6, x7⟩ := hI.two u hx.1 hx.2
      rw [x4] at u3
      exact rpos_ne hH.inj (show y ≠ j by omega) (by omega) hj u3
    have eu : pl u = rpos ro j := by rw [← hI.thr u nu]; exact u3
    have nprc := npr u u1 eu
    obtain ⟨b0, b1, b2, b3, b4, b5⟩ := E4 u u1
    have eO : plO u = rpos ro j := by rw [E6 u j u1 hj eu, eu]
    have uq : ∀ q, B q → pl q = rpos ro j → q = u := fun q hq e => by
      by_cases x : q = u
      · exact x
      · have := hH.dis q u hq u1 x; omega
    have m15 : τ 29 (rpos ro j) &&& 15 = nI (mn u) := by rw [← u3, (C1.1 u ⟨u1, u2⟩).2]; exact b3
    unfold p_Col_slideOrErase p_Mar_isLive
    rcases E5 (rpos ro j) hp6 with ⟨e, hno⟩ | ⟨e, w, w1, w2, w3⟩
    · -- it is dead
      have nA : ¬ A u := hno u u1 eO
      have e' := e_narl (Or.inl e)
      simp (disch := omega) only [forall_eq, true_and, and_true, and_self, not_true_eq_false, not_false_eq_true, false_imp_iff, true_imp_iff, imp_self, implies_true, ne_eq, reduceIte, cl, cl0, cl1, cl2, vpn, vp0, le8, le16, le40, le640, le1400, le6400, lt8, lt16, le15, le2, nI_leI, nI_ltI, nI_eq, nI_1, nI_add, n_le0, n_lt0, n_0le, n_eq0, n_eq1, n_eq2, n_m1, n_m1r, Nat.reduceEqDiff, Nat.reduceAdd, Int32.add_zero, nI_pred, div16, mul15, mul40, mul16, mul640, mulr16, xu_s, xu_c, xu_k, xu_cc, rows_xu, xf_s, xf_c, rows_xf, xul_c, rows_xul, xul_L, lgc, e3, n10, f26, e]
      simp (disch := omega) only [forall_eq, true_and, and_true, and_self, not_true_eq_false, not_false_eq_true, false_imp_iff, true_imp_iff, imp_self, implies_true, ne_eq, reduceIte, cl, cl0, cl1, cl2, vpn, vp0, le8, le16, le40, le640, le1400, le6400, lt8, lt16, le15, le2, nI_leI, nI_ltI, nI_eq, nI_1, nI_add, n_le0, n_lt0, n_0le, n_eq0, n_eq1, n_eq2, n_m1, n_m1r, Nat.reduceEqDiff, Nat.reduceAdd, Int32.add_zero, nI_pred, div16, mul15, mul40, mul16, mul640, mulr16, xu_s, xu_c, xu_k, xu_cc, rows_xu, xf_s, xf_c, rows_xf, xul_c, rows_xul, xul_L, lgc, e] at e'
      refine ⟨e', ?_⟩
      have key := e_erase (σ := τ) (s := τ 28) (c := τ 29) (p := rpos ro j) (m := mn u) (by rw [← eu]; exact b1) m15 (fun σ11 => Q (xu σ11 2 3 ((σ11 2 3) + 1))) (by
        refine h _ ?_
        obtain ⟨q1, q2, q3⟩ := hp2_e τ (rng (τ 28) (rpos ro j) (mn u + 1) 4) (rng (τ 29) (rpos ro j) (mn u + 1) 0)
        have hn : ∀ o, A o → pl o ≠ rpos ro j := fun o ho x => nA (uq o (hH.ab o ho) x ▸ ho)
        unfold SC
        rw [slS_n hn]
        have hset : ∀ o, ((B o ∧ (A o ∨ ¬ prc ro pl j o)) ∧ o ≠ u) ↔ (B o ∧ (A o ∨ ¬ prc ro pl (j + 1) o)) := fun o => by
          by_cases eo : pl o = rpos ro j
          · constructor
            · exact fun x => absurd (uq o x.1.1 eo) x.2
            · exact fun x => absurd x.2 (fun y => y.elim (fun z => hn o z eo) (fun z => z ⟨j, by omega, eo⟩))
          · rw [pr1 o eo]
            exact ⟨fun x => x.1, fun x => ⟨x, fun y => eo (by rw [y]; exact eu)⟩⟩
        refine ⟨?_, ?_, ⟨?_, ?_⟩, ?_, ⟨gd + 1, ?_, ?_⟩, fun d d1 d2 d3 d4 d5 d6 => ?_, fun k hk => ?_, fun k k1 k2 => ?_⟩
        · rw [xu_c _ _ _ _ (by decide), xu_c _ _ _ _ (by decide), q1, q2, ← u3]
          exact HeapR_A (HeapR_e C1 hI.fou ⟨u1, u2⟩) hset
        · rw [xu_c _ _ _ _ (by decide), q3 10 (by decide) (by decide)]; exact C2
        · rw [xu_c _ _ _ _ (by decide), q3 22 (by decide) (by decide)]; exact C3
        · rw [xu_c _ _ _ _ (by decide), q3 23 (by decide) (by decide)]; exact C3'
        · rw [xu_k _ _ _ _ (by decide), q3 2 (by decide) (by decide)]; exact C4
        · rw [xu_s, q3 2 (by decide) (by decide), C5, add_nI]
        · have := cnt_rem (P := fun o => (B o ∧ (A o ∨ ¬ prc ro pl (j + 1) o)) ∧ ¬ A o) (Q := fun o => (B o ∧ (A o ∨ ¬ prc ro pl j o)) ∧ ¬ A o) (n := 640) (k := u) (fun o _ => by
            rw [← hset o]
            exact ⟨fun x => ⟨⟨x.1.1, x.2⟩, x.1.2⟩, fun x => ⟨⟨x.1.1, x.2⟩, x.1.2⟩⟩) b0 ⟨⟨u1, u2⟩, nA⟩
          omega
        · rw [xu_c _ _ _ _ d6, q3 d d1 d2]; exact C6 d d1 d2 d3 d4 d5 d6
        · rw [xu_c _ _ _ _ (by decide), xu_c _ _ _ _ (by decide), q3 22 (by decide) (by decide), q3 23 (by decide) (by decide)]; exact C7 k hk
        · rw [xu_k _ _ _ _ k1, q3 2 (by decide) (by decide)]; exact C8 k k1 k2)
      rw [hp2, hp2_0] at key
      exact key
    · -- it is live
      have eA : A u := by rw [← E7 w u w1 u1 (by rw [w2, eO])]; exact w3
      have e' := e_narl (Or.inr e)
      simp (disch := omega) only [forall_eq, true_and, and_true, and_self, not_true_eq_false, not_false_eq_true, false_imp_iff, true_imp_iff, imp_self, implies_true, ne_eq, reduceIte, cl, cl0, cl1, cl2, vpn, vp0, le8, le16, le40, le640, le1400, le6400, lt8, lt16, le15, le2, nI_leI, nI_ltI, nI_eq, nI_1, nI_add, n_le0, n_lt0, n_0le, n_eq0, n_eq1, n_eq2, n_m1, n_m1r, Nat.reduceEqDiff, Nat.reduceAdd, Int32.add_zero, nI_pred, div16, mul15, mul40, mul16, mul640, mulr16, xu_s, xu_c, xu_k, xu_cc, rows_xu, xf_s, xf_c, rows_xf, xul_c, rows_xul, xul_L, lgc, e] at e'
      obtain ⟨y, y1, y2, y3, y4, y5⟩ := SI_to hH hI hj u1 eu
      have uqA : ∀ q, A q → pl q = rpos ro j → q = u := fun q hq x => uq q (hH.ab q hq) x
      obtain ⟨len, elen⟩ : ∃ len, (slS A mn ro pl j).1 = len := ⟨_, rfl⟩
      obtain ⟨fill, efill⟩ : ∃ fill, (slS A mn ro pl j).2.1 = fill := ⟨_, rfl⟩
      obtain ⟨P, eP⟩ : ∃ P, (slS A mn ro pl j).2.2.1 = P := ⟨_, rfl⟩
      obtain ⟨mv, emv⟩ : ∃ mv, (slS A mn ro pl j).2.2.2 = mv := ⟨_, rfl⟩
      rw [elen, efill] at y3 y4 y5
      rw [elen, efill, eP] at hI
      rw [elen] at C3
      rw [efill] at C3'
      rw [emv] at C4
      rw [eP] at C1 C2 u3
      have hset : ∀ o, (B o ∧ (A o ∨ ¬ prc ro pl j o)) ↔ (B o ∧ (A o ∨ ¬ prc ro pl (j + 1) o)) := fun o => by
        by_cases eo : pl o = rpos ro j
        · constructor
          · exact fun x => ⟨x.1, Or.inl (uq o x.1 eo ▸ eA)⟩
          · exact fun x => ⟨x.1, Or.inl (uq o x.1 eo ▸ eA)⟩
        · rw [pr1 o eo]
      have hy16 : y < 16 * m := by omega
      have hry := (E3 (y / 16) (by omega)).2
      have hyb : rpos ro y + mn u < 640 := by unfold rpos; omega
      have fin : ∀ (len' fill' : Nat) (τ1 : xS), slS A mn ro pl (j + 1) = (len', fill', va_up P u (rpos ro y), mv + (if rpos ro y = rpos ro j then 0 else 1)) → 0 < len' → (1 ≤ fill' ∧ fill' ≤ 16) → 16 * (len' - 1) + fill' = y + (mn u + 1) → (∀ d, d ≠ 22 → d ≠ 23 → τ1 d = τ d) → (τ1 22 r = nI len' ∧ τ1 23 r = nI fill') → (∀ k, k ≠ r → τ1 22 k = σ 22 k ∧ τ1 23 k = σ 23 k) →
          ((rpos ro y = rpos ro j → Q τ1) ∧ (¬ rpos ro y = rpos ro j → p_Hea_carry (nI (rpos ro j)) (nI (rpos ro y)) τ1 (fun σ9 => p_Mem_noteMove (nI (rpos ro j)) (nI (rpos ro y)) σ9 (fun σ10 => Q (xu σ10 2 4 ((σ10 2 4) + 1)))))) := fun len' fill' τ1 es hl hf he t1 t2 t3 => by
        obtain ⟨hI', hfree⟩ := SI_y hH hI hj eA eu y1 y2 y5 hl hf he
        constructor
        · intro ey
          refine h τ1 ?_
          unfold SC
          rw [es]
          dsimp only
          rw [if_pos ey, Nat.add_zero, t1 28 (by decide) (by decide), t1 29 (by decide) (by decide), t1 10 (by decide) (by decide), t1 2 (by decide) (by decide)]
          have eq : va_up P u (rpos ro y) = P := by
            funext o
            by_cases eo : o = u
            · rw [eo, vu_s, ey, u3]
            · rw [vu_n _ _ eo]
          rw [eq]
          refine ⟨HeapR_A C1 hset, C2, t2, C4, ⟨gd, C5, ?_⟩, fun d d1 d2 d3 d4 d5 d6 => by rw [t1 d d4 d5]; exact C6 d d1 d2 d3 d4 d5 d6, t3, C8⟩
          rw [← C5', cnt_iff (P := fun o => (B o ∧ (A o ∨ ¬ prc ro pl (j + 1) o)) ∧ ¬ A o) (Q := fun o => (B o ∧ (A o ∨ ¬ prc ro pl j o)) ∧ ¬ A o) (n := 640) (fun o _ => by rw [← hset o])]
        · intro ey
          have ov : rpos ro y < rpos ro j ∨ rpos ro j + mn u < rpos ro y := by
            have hjp := hH.pg u u1
            rw [eu, (rpos_mod ro j).1] at hjp
            by_cases ep : y / 16 = j / 16
            · left
              unfold rpos at ey ⊢
              rw [ep] at ey ⊢
              omega
            · have := hH.inj (y / 16) (j / 16) (by omega) (by omega)
              unfold rpos
              omega
          have key := e_carry (σ := τ1) (s := τ 28) (c := τ 29) (p := rpos ro j) (q := rpos ro y) (m := mn u) (by rw [← eu]; exact b1) hyb ov m15 (fun σ9 => p_Mem_noteMove (nI (rpos ro j)) (nI (rpos ro y)) σ9 (fun σ10 => Q (xu σ10 2 4 ((σ10 2 4) + 1)))) (by
            unfold p_Mem_noteMove
            simp (disch := omega) only [forall_eq, true_and, and_true, and_self, not_true_eq_false, not_false_eq_true, false_imp_iff, true_imp_iff, imp_self, implies_true, ne_eq, reduceIte, cl, cl0, cl1, cl2, vpn, vp0, le8, le16, le40, le640, le1400, le6400, lt8, lt16, le15, le2, nI_leI, nI_ltI, nI_eq, nI_1, nI_add, n_le0, n_lt0, n_0le, n_eq0, n_eq1, n_eq2, n_m1, n_m1r, Nat.reduceEqDiff, Nat.reduceAdd, Int32.add_zero, nI_pred, div16, mul15, mul40, mul16, mul640, mulr16, xu_s, xu_c, xu_k, xu_cc, rows_xu, xf_s, xf_c, rows_xf, xul_c, rows_xul, xul_L, lgc]
            obtain ⟨q1, q2, q3⟩ := hp2_e τ1 (car (τ 28) (rpos ro j) (rpos ro y) (mn u + 1) 4) (car (τ 29) (rpos ro j) (rpos ro y) (mn u + 1) 0)
            refine h _ ?_
            unfold SC
            rw [es]
            dsimp only
            rw [if_neg ey]
            refine ⟨?_, fun o ho => ?_, ⟨?_, ?_⟩, ?_, ⟨gd, ?_, ?_⟩, fun d d1 d2 d3 d4 d5 d6 => ?_, fun k hk => ?_, fun k k1 k2 => ?_⟩
            · rw [xu_c _ _ _ _ (by decide), xu_c _ _ _ _ (by decide), xu_c _ _ _ _ (by decide), xu_c _ _ _ _ (by decide), q1, q2]
              have := HeapR_m C1 hI.fou (u := u) (q := rpos ro y) ⟨u1, u2⟩ (fun o ho hne => hfree o ho.1 ho.2 hne)
              rw [u3] at this
              exact HeapR_A this hset
            · rw [xu_c _ _ _ _ (by decide), xu_cc, q3 10 (by decide) (by decide), t1 10 (by decide) (by decide)]
              by_cases eo : o = u
              · rw [eo, eO, upd_s, vu_s]
              · rw [upd_n _ _ (fun x => eo (E7 o u (hH.ab o ho) u1 (by rw [x, eO]))), vu_n _ _ eo]
                exact C2 o ho
            · rw [xu_c _ _ _ _ (by decide), xu_c _ _ _ _ (by decide), q3 22 (by decide) (by decide)]; exact t2.1
            · rw [xu_c _ _ _ _ (by decide), xu_c _ _ _ _ (by decide), q3 23 (by decide) (by decide)]; exact t2.2
            · rw [xu_s, t1 2 (by decide) (by decide), C4, add_nI]
            · rw [xu_k _ _ _ _ (by decide), xu_c _ _ _ _ (by decide), q3 2 (by decide) (by decide), t1 2 (by decide) (by decide)]; exact C5
            · rw [← C5', cnt_iff (P := fun o => (B o ∧ (A o ∨ ¬ prc ro pl (j + 1) o)) ∧ ¬ A o) (Q := fun o => (B o ∧ (A o ∨ ¬ prc ro pl j o)) ∧ ¬ A o) (n := 640) (fun o _ => by rw [← hset o])]
            · rw [xu_c _ _ _ _ d6, xu_c _ _ _ _ d3, q3 d d1 d2, t1 d d4 d5]; exact C6 d d1 d2 d3 d4 d5 d6
            · rw [xu_c _ _ _ _ (by decide), xu_c _ _ _ _ (by decide), xu_c _ _ _ _ (by decide), xu_c _ _ _ _ (by decide), q3 22 (by decide) (by decide), q3 23 (by decide) (by decide)]; exact t3 k hk
            · rw [xu_k _ _ _ _ k2, xu_c _ _ _ _ (by decide), q3 2 (by decide) (by decide), t1 2 (by decide) (by decide)]; exact C8 k k1 k2)
          have e28 := t1 28 (by decide) (by decide)
          have e29 := t1 29 (by decide) (by decide)
          rw [hp2, ← e28, ← e29, hp2_0] at key
          exact key
      have es := slS_y (mn := mn) eA eu uqA
      unfold slP at es
      rw [elen, efill, eP, emv] at es
      have hlm : len ≤ m ∧ fill ≤ 16 := by
        rcases hI.one with ⟨a, b⟩ | ⟨a, b, c, d, _⟩ <;> omega
      have f32 : τ (32 + r) = σ (32 + r) := C6 (32 + r) (by omega) (by omega) (by omega) (by omega) (by omega) (by omega)
      unfold p_Hea_sizeOf p_Hea_fieldsOf p_Reg_slidePlaces p_Reg_slidePlaces_J30 p_Reg_nextPlaces
      by_cases hov : 16 < fill + (mn u + 1)
      · obtain ⟨z1, z2, z3⟩ := y3 hov
        rw [if_pos hov, ← z2] at es
        have hov' : ¬ fill + (mn u + 1) ≤ 16 := by omega
        obtain ⟨r1, r2⟩ := E3 len z3
        simp (disch := omega) only [forall_eq, true_and, and_true, and_self, not_true_eq_false, not_false_eq_true, false_imp_iff, true_imp_iff, imp_self, implies_true, ne_eq, reduceIte, cl, cl0, cl1, cl2, vpn, vp0, le8, le16, le40, le640, le1400, le6400, lt8, lt16, le15, le2, nI_leI, nI_ltI, nI_eq, nI_1, nI_add, n_le0, n_lt0, n_0le, n_eq0, n_eq1, n_eq2, n_m1, n_m1r, Nat.reduceEqDiff, Nat.reduceAdd, Int32.add_zero, nI_pred, div16, mul15, mul40, mul16, mul640, mulr16, xu_s, xu_c, xu_k, xu_cc, rows_xu, xf_s, xf_c, rows_xf, xul_c, rows_xul, xul_L, lgc, e3, n10, f26, e, m15, C3, C3', hov', f32, r1, nI_0, Nat.add_zero, Nat.zero_add]
        refine ⟨e', ?_⟩
        rw [← z2]
        refine fin (len + 1) (mn u + 1) _ es (by omega) ⟨by omega, by omega⟩ (by omega) (fun d d1 d2 => ?_) ⟨?_, ?_⟩ (fun k hk => ?_)
        · simp (disch := omega) only [forall_eq, true_and, and_true, and_self, not_true_eq_false, not_false_eq_true, false_imp_iff, true_imp_iff, imp_self, implies_true, ne_eq, reduceIte, cl, cl0, cl1, cl2, vpn, vp0, le8, le16, le40, le640, le1400, le6400, lt8, lt16, le15, le2, nI_leI, nI_ltI, nI_eq, nI_1, nI_add, n_le0, n_lt0, n_0le, n_eq0, n_eq1, n_eq2, n_m1, n_m1r, Nat.reduceEqDiff, Nat.reduceAdd, Int32.add_zero, nI_pred, div16, mul15, mul40, mul16, mul640, mulr16, xu_s, xu_c, xu_k, xu_cc, rows_xu, xf_s, xf_c, rows_xf, xul_c, rows_xul, xul_L, lgc]
        · simp (disch := omega) only [forall_eq, true_and, and_true, and_self, not_true_eq_false, not_false_eq_true, false_imp_iff, true_imp_iff, imp_self, implies_true, ne_eq, reduceIte, cl, cl0, cl1, cl2, vpn, vp0, le8, le16, le40, le640, le1400, le6400, lt8, lt16, le15, le2, nI_leI, nI_ltI, nI_eq, nI_1, nI_add, n_le0, n_lt0, n_0le, n_eq0, n_eq1, n_eq2, n_m1, n_m1r, Nat.reduceEqDiff, Nat.reduceAdd, Int32.add_zero, nI_pred, div16, mul15, mul40, mul16, mul640, mulr16, xu_s, xu_c, xu_k, xu_cc, rows_xu, xf_s, xf_c, rows_xf, xul_c, rows_xul, xul_L, lgc]
        · simp (disch := omega) only [forall_eq, true_and, and_true, and_self, not_true_eq_false, not_false_eq_true, false_imp_iff, true_imp_iff, imp_self, implies_true, ne_eq, reduceIte, cl, cl0, cl1, cl2, vpn, vp0, le8, le16, le40, le640, le1400, le6400, lt8, lt16, le15, le2, nI_leI, nI_ltI, nI_eq, nI_1, nI_add, n_le0, n_lt0, n_0le, n_eq0, n_eq1, n_eq2, n_m1, n_m1r, Nat.reduceEqDiff, Nat.reduceAdd, Int32.add_zero, nI_pred, div16, mul15, mul40, mul16, mul640, mulr16, xu_s, xu_c, xu_k, xu_cc, rows_xu, xf_s, xf_c, rows_xf, xul_c, rows_xul, xul_L, lgc, Int32.zero_add]
        · have hk' : ¬ k = r := hk
          simp (disch := omega) only [forall_eq, true_and, and_true, and_self, not_true_eq_false, not_false_eq_true, false_imp_iff, true_imp_iff, imp_self, implies_true, ne_eq, reduceIte, cl, cl0, cl1, cl2, vpn, vp0, le8, le16, le40, le640, le1400, le6400, lt8, lt16, le15, le2, nI_leI, nI_ltI, nI_eq, nI_1, nI_add, n_le0, n_lt0, n_0le, n_eq0, n_eq1, n_eq2, n_m1, n_m1r, Nat.reduceEqDiff, Nat.reduceAdd, Int32.add_zero, nI_pred, div16, mul15, mul40, mul16, mul640, mulr16, xu_s, xu_c, xu_k, xu_cc, rows_xu, xf_s, xf_c, rows_xf, xul_c, rows_xul, xul_L, lgc, upd_n, upd_s]
          exact C7 k hk
      · obtain ⟨z1, z2, z3⟩ := y4 hov
        rw [if_neg hov, ← z3] at es
        have hov' : fill + (mn u + 1) ≤ 16 := by omega
        obtain ⟨r1, r2⟩ := E3 (len - 1) (by omega)
        obtain ⟨ln, rfl⟩ : ∃ ln, len = ln + 1 := ⟨len - 1, by omega⟩
        rw [show ln + 1 - 1 = ln by omega] at z2 z3 r1 r2
        simp (disch := omega) only [forall_eq, true_and, and_true, and_self, not_true_eq_false, not_false_eq_true, false_imp_iff, true_imp_iff, imp_self, implies_true, ne_eq, reduceIte, cl, cl0, cl1, cl2, vpn, vp0, le8, le16, le40, le640, le1400, le6400, lt8, lt16, le15, le2, nI_leI, nI_ltI, nI_eq, nI_1, nI_add, n_le0, n_lt0, n_0le, n_eq0, n_eq1, n_eq2, n_m1, n_m1r, Nat.reduceEqDiff, Nat.reduceAdd, Int32.add_zero, nI_pred, div16, mul15, mul40, mul16, mul640, mulr16, xu_s, xu_c, xu_k, xu_cc, rows_xu, xf_s, xf_c, rows_xf, xul_c, rows_xul, xul_L, lgc, e3, n10, f26, e, m15, C3, C3', hov', f32, r1]
        refine ⟨e', ?_⟩
        rw [← z3]
        refine fin (ln + 1) (fill + (mn u + 1)) _ es (by omega) ⟨by omega, by omega⟩ (by omega) (fun d d1 d2 => ?_) ⟨?_, ?_⟩ (fun k hk => ?_)
        · simp (disch := omega) only [forall_eq, true_and, and_true, and_self, not_true_eq_false, not_false_eq_true, false_imp_iff, true_imp_iff, imp_self, implies_true, ne_eq, reduceIte, cl, cl0, cl1, cl2, vpn, vp0, le8, le16, le40, le640, le1400, le6400, lt8, lt16, le15, le2, nI_leI, nI_ltI, nI_eq, nI_1, nI_add, n_le0, n_lt0, n_0le, n_eq0, n_eq1, n_eq2, n_m1, n_m1r, Nat.reduceEqDiff, Nat.reduceAdd, Int32.add_zero, nI_pred, div16, mul15, mul40, mul16, mul640, mulr16, xu_s, xu_c, xu_k, xu_cc, rows_xu, xf_s, xf_c, rows_xf, xul_c, rows_xul, xul_L, lgc]
        · simp (disch := omega) only [forall_eq, true_and, and_true, and_self, not_true_eq_false, not_false_eq_true, false_imp_iff, true_imp_iff, imp_self, implies_true, ne_eq, reduceIte, cl, cl0, cl1, cl2, vpn, vp0, le8, le16, le40, le640, le1400, le6400, lt8, lt16, le15, le2, nI_leI, nI_ltI, nI_eq, nI_1, nI_add, n_le0, n_lt0, n_0le, n_eq0, n_eq1, n_eq2, n_m1, n_m1r, Nat.reduceEqDiff, Nat.reduceAdd, Int32.add_zero, nI_pred, div16, mul15, mul40, mul16, mul640, mulr16, xu_s, xu_c, xu_k, xu_cc, rows_xu, xf_s, xf_c, rows_xf, xul_c, rows_xul, xul_L, lgc, C3]
        · simp (disch := omega) only [forall_eq, true_and, and_true, and_self, not_true_eq_false, not_false_eq_true, false_imp_iff, true_imp_iff, imp_self, implies_true, ne_eq, reduceIte, cl, cl0, cl1, cl2, vpn, vp0, le8, le16, le40, le640, le1400, le6400, lt8, lt16, le15, le2, nI_leI, nI_ltI, nI_eq, nI_1, nI_add, n_le0, n_lt0, n_0le, n_eq0, n_eq1, n_eq2, n_m1, n_m1r, Nat.reduceEqDiff, Nat.reduceAdd, Int32.add_zero, nI_pred, div16, mul15, mul40, mul16, mul640, mulr16, xu_s, xu_c, xu_k, xu_cc, rows_xu, xf_s, xf_c, rows_xf, xul_c, rows_xul, xul_L, lgc]
        · have hk' : ¬ k = r := hk
          simp (disch := omega) only [forall_eq, true_and, and_true, and_self, not_true_eq_false, not_false_eq_true, false_imp_iff, true_imp_iff, imp_self, implies_true, ne_eq, reduceIte, cl, cl0, cl1, cl2, vpn, vp0, le8, le16, le40, le640, le1400, le6400, lt8, lt16, le15, le2, nI_leI, nI_ltI, nI_eq, nI_1, nI_add, n_le0, n_lt0, n_0le, n_eq0, n_eq1, n_eq2, n_m1, n_m1r, Nat.reduceEqDiff, Nat.reduceAdd, Int32.add_zero, nI_pred, div16, mul15, mul40, mul16, mul640, mulr16, xu_s, xu_c, xu_k, xu_cc, rows_xu, xf_s, xf_c, rows_xf, xul_c, rows_xul, xul_L, lgc, upd_n, upd_s]
          exact C7 k hk
  · have nB : ∀ o, B o → pl o ≠ rpos ro j := fun o ho eo => by
      have x := npr o ho eo
      have := (C1.1 o ⟨ho, Or.inr x⟩).1
      rw [hI.thr o (fun y => x y.2), eo] at this
      exact e3 this
    simp (disch := omega) only [forall_eq, true_and, and_true, and_self, not_true_eq_false, not_false_eq_true, false_imp_iff, true_imp_iff, imp_self, implies_true, ne_eq, reduceIte, cl, cl0, cl1, cl2, vpn, vp0, le8, le16, le40, le640, le1400, le6400, lt8, lt16, le15, le2, nI_leI, nI_ltI, nI_eq, nI_1, nI_add, n_le0, n_lt0, n_0le, n_eq0, n_eq1, n_eq2, n_m1, n_m1r, Nat.reduceEqDiff, Nat.reduceAdd, Int32.add_zero, nI_pred, div16, mul15, mul40, mul16, mul640, mulr16, xu_s, xu_c, xu_k, xu_cc, rows_xu, xf_s, xf_c, rows_xf, xul_c, rows_xul, xul_L, lgc, e3, n10]
    refine h τ ?_
    unfold SC
    rw [slS_n (fun o ho => nB o (hH.ab o ho))]
    have hset : ∀ o, (B o ∧ (A o ∨ ¬ prc ro pl j o)) ↔ (B o ∧ (A o ∨ ¬ prc ro pl (j + 1) o)) := fun o => by
      constructor
      · rintro ⟨a, b⟩; exact ⟨a, by rw [pr1 o (nB o a)]; exact b⟩
      · rintro ⟨a, b⟩; exact ⟨a, by rw [← pr1 o (nB o a)]; exact b⟩
    refine ⟨HeapR_A C1 hset, C2, ⟨C3, C3'⟩, C4, ⟨gd, C5, ?_⟩, C6, C7, C8⟩
    rw [← C5', cnt_iff (P := fun o => (B o ∧ (A o ∨ ¬ prc ro pl (j + 1) o)) ∧ ¬ A o) (Q := fun o => (B o ∧ (A o ∨ ¬ prc ro pl j o)) ∧ ¬ A o) (n := 640) (fun o _ => by rw [← hset o])]
