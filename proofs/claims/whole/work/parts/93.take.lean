theorem xu_xu (σ : xS) (c k : Nat) (v w : Int32) : xu (xu σ c k v) c k w = xu σ c k w := by
  funext d j
  by_cases e : d = c
  · subst e; rw [xu_cc, xu_cc, xu_cc, upd_upd]
  · rw [xu_c _ _ _ _ e, xu_c _ _ _ _ e, xu_c _ _ _ _ e]
def TR (σ ρ : xS) : Prop := iReg (σ 20) (ρ 51) (ρ 52) (ρ 53) (ρ 31 13) ∧ iOwn (σ 20) (ρ 50) (ρ 51) (ρ 52) (ρ 31 13) ∧ cReg (σ 7 4) (ρ 31 13) (σ 22) (σ 23) (ρ 51) (ρ 53) (ρ 52) (rowsF σ)
theorem Inv2_TR {t : Nat} {σ ρ : xS} (h : Inv2 t σ ρ) : TR σ ρ := by
  obtain ⟨⟨h1, h2, h3, h4, h5, h6, h7, h8, h9⟩, c1, c2, c3, c4, c5, c6, c7⟩ := h
  exact ⟨h6, h7, c3⟩
def tf (ρ : xS) (r : Nat) : Nat := (ρ 53 r).toNatClampNeg
def Tk (σ ρ : xS) (r s : Nat) (σ' ρ' : xS) (q : Nat) : Prop :=
  (0 < mm ρ r ∧ tf ρ r + s ≤ 16 ∧ q = rr ρ r (mm ρ r - 1) * 16 + tf ρ r ∧ σ' = xu σ 23 r (nI (tf ρ r + s)) ∧ ρ' = xu ρ 53 r (nI (tf ρ r + s))) ∨
  ((mm ρ r = 0 ∨ 16 < tf ρ r + s) ∧ ∃ p, p < 40 ∧ ρ 50 p = 0 ∧ (∀ p', p' < p → ¬ ρ 50 p' = 0) ∧ q = p * 16 ∧ σ' = xu (xu (xu (xu σ 20 p (nI r)) (32 + r) (mm ρ r) (nI p)) 22 r (nI (mm ρ r + 1))) 23 r (nI s) ∧
    ρ' = xu (xu (xu (xu ρ 52 (40 * r + mm ρ r) (nI p)) 51 r (nI (mm ρ r + 1))) 50 p 1) 53 r (nI s))
def noR (ρ : xS) (r s : Nat) : Prop := (mm ρ r = 0 ∨ 16 < tf ρ r + s) ∧ ∀ p, p < 40 → ¬ ρ 50 p = 0
def itm (σ ρ : xS) (g p m : Nat) : Prop := σ 20 (p / 16) = nI g ∧ p % 16 + m < 16 ∧ ((ρ 52 (40 * g + (ρ 51 g).toNatClampNeg - 1)).toNatClampNeg = p / 16 → p % 16 + m < (ρ 53 g).toNatClampNeg)
theorem TR_at {σ ρ : xS} (hT : TR σ ρ) {r : Nat} (hr : r < rN ρ) : r < 8 ∧ mm ρ r ≤ 40 ∧ ρ 51 r = nI (mm ρ r) ∧ ρ 53 r = nI (tf ρ r) ∧ tf ρ r ≤ 16 ∧ (mm ρ r = 0 ↔ tf ρ r = 0) ∧ (∀ k, k < mm ρ r → ρ 52 (40 * r + k) = nI (rr ρ r k) ∧ rr ρ r k < 40 ∧ σ 20 (rr ρ r k) = nI r ∧ σ (32 + r) k = nI (rr ρ r k)) ∧ (∀ j k, j < k → k < mm ρ r → rr ρ r j ≠ rr ρ r k) ∧ σ 22 r = nI (mm ρ r) ∧ σ 23 r = (if mm ρ r = 0 then 16 else nI (tf ρ r)) := by
  obtain ⟨h6, h7, c3⟩ := hT
  have hr8 : r < 8 := Nat.lt_of_lt_of_le hr h6.2.1
  obtain ⟨g1, g2, g3, g4, g5⟩ := h6.2.2 r hr
  obtain ⟨d1, d2, d3⟩ := c3.2 r hr
  refine ⟨hr8, g1.2, g1.1, g2.1, g2.2, g3, fun k hk => ?_, g5, by rw [d1]; exact g1.1, ?_⟩
  · have := d3 k hk
    rw [rows_in σ hr8] at this
    exact ⟨(g4 k hk).1, (g4 k hk).2.1, (g4 k hk).2.2, by rw [this]; exact (g4 k hk).1⟩
  · rw [d2]
    unfold mm
    by_cases x : (ρ 51 r).toNatClampNeg = 0
    · rw [if_pos x, if_pos x]
    · rw [if_neg x, if_neg x]; exact g2.1
theorem TR_free {σ ρ : xS} (hT : TR σ ρ) {p : Nat} (hp : p < 40) : (ρ 50 p = 0 ↔ σ 20 p = -1) ∧ (¬ ρ 50 p = 0 → ρ 50 p = 1) := by
  have hR8 := hT.1.2.1
  rcases hT.2.1 p hp with ⟨a, b⟩ | ⟨a, q, k, hq, hk, b, c⟩
  · rw [a, b]; exact ⟨⟨fun _ => rfl, fun _ => rfl⟩, fun h => absurd rfl h⟩
  · rw [a, b, n_m1 (by omega)]; exact ⟨⟨fun h => absurd h n10, False.elim⟩, fun _ => rfl⟩
theorem Tk_lt {σ ρ : xS} (hT : TR σ ρ) {r p : Nat} (hr : r < rN ρ) (hp : p < 40) (h0 : ρ 50 p = 0) : mm ρ r < 40 := by
  obtain ⟨a1, a2, a3, a4, a5, a6, a7, a8, _⟩ := TR_at hT hr
  have e20 := (TR_free hT hp).1.mp h0
  have : mm ρ r + 1 ≤ 40 := pigeon 40 (mm ρ r + 1) (fun k => if k < mm ρ r then rr ρ r k else p) (fun i hi => by
    by_cases x : i < mm ρ r
    · rw [if_pos x]; exact (a7 i x).2.1
    · rw [if_neg x]; exact hp) (fun i j hij hj => by
    rw [if_pos (show i < mm ρ r by omega)]
    by_cases x : j < mm ρ r
    · rw [if_pos x]; exact a8 i j hij x
    · rw [if_neg x]
      intro e
      have := (a7 i (by omega)).2.2.1
      rw [e, e20] at this
      exact (n_m1r (by omega)).mp this)
  omega
theorem Tk_ok {σ ρ σ' ρ' : xS} {r s q : Nat} (hT : TR σ ρ) (hr : r < rN ρ) (hs : 1 ≤ s ∧ s ≤ 16) (h : Tk σ ρ r s σ' ρ' q) : TR σ' ρ' ∧ q + s ≤ 640 ∧ itm σ' ρ' r q (s - 1) ∧ (∀ g p m, g < rN ρ → p < 640 → itm σ ρ g p m → itm σ' ρ' g p m ∧ (p + m < q ∨ q + (s - 1) < p)) := by
  obtain ⟨a1, a2, a3, a4, a5, a6, a7, a8, a9, aA⟩ := TR_at hT hr
  obtain ⟨h6, h7, c3⟩ := id hT
  have hR8 : rN ρ ≤ 8 := h6.2.1
  rcases h with ⟨b1, b2, rfl, rfl, rfl⟩ | ⟨b0, p, b1, b2, b3, rfl, rfl, rfl⟩
  · obtain ⟨m1, m2, m3, m4⟩ := a7 (mm ρ r - 1) (by omega)
    have ei : 40 * r + (mm ρ r - 1) = 40 * r + mm ρ r - 1 := by omega
    have tf' : tf ρ r ≠ 0 := fun x => by have := a6.mpr x; omega
    unfold TR itm
    simp (disch := omega) only [forall_eq, true_and, and_true, and_self, not_true_eq_false, not_false_eq_true, false_imp_iff, true_imp_iff, imp_self, implies_true, ne_eq, reduceIte, cl, cl0, cl1, cl2, vpn, vp0, le8, le16, le40, le640, le1400, le6400, lt8, lt16, le15, le2, nI_leI, nI_ltI, nI_eq, nI_1, nI_add, n_le0, n_lt0, n_0le, n_eq0, n_eq1, n_eq2, n_m1, n_m1r, Nat.reduceEqDiff, Nat.reduceAdd, Int32.add_zero, nI_pred, div16, mul15, mul40, mul16, mul640, mulr16, xu_s, xu_c, xu_k, xu_cc, rows_xu, xf_s, xf_c, rows_xf, xul_c, rows_xul, xul_L, lgc]
    refine ⟨⟨⟨h6.1, h6.2.1, fun g hg => ?_⟩, h7, ⟨c3.1, fun g hg => ?_⟩⟩, by omega, ⟨?_, by omega, fun _ => ?_⟩, fun g p m hg hp hi => ⟨⟨hi.1, hi.2.1, fun e => ?_⟩, ?_⟩⟩
    · by_cases e : g = r
      · rw [e, upd_s, cl (by omega)]
        obtain ⟨g1, g2, g3, g4, g5⟩ := h6.2.2 r hr
        refine ⟨g1, ⟨rfl, b2⟩, ?_, g4, g5⟩
        have : (ρ 51 r).toNatClampNeg = mm ρ r := rfl
        rw [this]; omega
      · rw [upd_n _ _ e]; exact h6.2.2 g hg
    · by_cases e : g = r
      · rw [e, upd_s, upd_s]
        have : (ρ 51 r).toNatClampNeg = mm ρ r := rfl
        rw [this, if_neg (by omega)]
        exact ⟨(c3.2 r hr).1, rfl, (c3.2 r hr).2.2⟩
      · rw [upd_n _ _ e, upd_n _ _ e]; exact c3.2 g hg
    · rw [show (rr ρ r (mm ρ r - 1) * 16 + tf ρ r) / 16 = rr ρ r (mm ρ r - 1) by omega]; exact m3
    · omega
    · by_cases e' : g = r
      · rw [e', upd_s, cl (by omega)]
        rw [e'] at e
        have := hi.2.2 (by rw [e']; exact e)
        rw [e'] at this
        have e2 : (ρ 53 r).toNatClampNeg = tf ρ r := rfl
        omega
      · rw [upd_n _ _ e']; exact hi.2.2 e
    · by_cases e' : p / 16 = rr ρ r (mm ρ r - 1)
      · have hg' : g = r := by
          have := hi.1
          rw [e', m3] at this
          exact ((nI_eq (by omega) (by omega)).mp this).symm
        subst hg'
        have e2 : (ρ 52 (40 * g + (ρ 51 g).toNatClampNeg - 1)).toNatClampNeg = rr ρ g (mm ρ g - 1) := by unfold rr; rw [ei]; rfl
        have := hi.2.2 (by rw [e2, e'])
        have e3 : (ρ 53 g).toNatClampNeg = tf ρ g := rfl
        omega
      · have := hi.2.1
        omega
  · have hm := Tk_lt hT hr b1 b2
    have e20 := (TR_free hT b1).1.mp b2
    have ne : ∀ x g, g < 8 → σ 20 x = nI g → x ≠ p := fun x g hg e y => by rw [y, e20] at e; exact (n_m1r (by omega)).mp e
    unfold TR itm
    have hrow : rowsF (xu (xu (xu (xu σ 20 p (nI r)) (32 + r) (mm ρ r) (nI p)) 22 r (nI (mm ρ r + 1))) 23 r (nI s)) = va_up (rowsF σ) r (upd (σ (32 + r)) (mm ρ r) (nI p)) := by
      rw [rows_xu _ _ _ _ (by omega), rows_xu _ _ _ _ (by omega), rows_up _ a1, rows_xu _ _ _ _ (by omega), xu_c _ _ _ _ (by omega)]
    rw [hrow]
    simp (disch := omega) only [forall_eq, true_and, and_true, and_self, not_true_eq_false, not_false_eq_true, false_imp_iff, true_imp_iff, imp_self, implies_true, ne_eq, reduceIte, cl, cl0, cl1, cl2, vpn, vp0, le8, le16, le40, le640, le1400, le6400, lt8, lt16, le15, le2, nI_leI, nI_ltI, nI_eq, nI_1, nI_add, n_le0, n_lt0, n_0le, n_eq0, n_eq1, n_eq2, n_m1, n_m1r, Nat.reduceEqDiff, Nat.reduceAdd, Int32.add_zero, nI_pred, div16, mul15, mul40, mul16, mul640, mulr16, xu_s, xu_c, xu_k, xu_cc, rows_xu, xf_s, xf_c, rows_xf, xul_c, rows_xul, xul_L, lgc]
    refine ⟨⟨⟨h6.1, h6.2.1, fun g hg => ?_⟩, fun x hx => ?_, ⟨c3.1, fun g hg => ?_⟩⟩, by omega, ⟨?_, by omega, fun _ => ?_⟩, fun g x m hg hx hi => ⟨⟨?_, hi.2.1, fun e => ?_⟩, ?_⟩⟩
    · obtain ⟨g1, g2, g3, g4, g5⟩ := h6.2.2 g hg
      by_cases e : g = r
      · subst e
        rw [upd_s, upd_s, cl (by omega), cl (by omega)]
        refine ⟨⟨rfl, by omega⟩, ⟨rfl, hs.2⟩, by omega, fun k hk => ?_, fun j k hj hk => ?_⟩
        · by_cases ek : k = mm ρ g
          · rw [ek, upd_s, cl (by omega), upd_s]; exact ⟨rfl, b1, rfl⟩
          · obtain ⟨y1, y2, y3⟩ := g4 k (by have : (ρ 51 g).toNatClampNeg = mm ρ g := rfl; omega)
            rw [upd_n _ _ (by omega), upd_n _ _ (ne _ g a1 y3)]
            exact ⟨y1, y2, y3⟩
        · have hm' : (ρ 51 g).toNatClampNeg = mm ρ g := rfl
          rw [upd_n _ _ (show 40 * g + j ≠ 40 * g + mm ρ g by omega)]
          by_cases ek : k = mm ρ g
          · rw [ek, upd_s, cl (by omega)]
            exact ne _ g a1 (g4 j (by omega)).2.2
          · rw [upd_n _ _ (by omega)]
            exact g5 j k hj (by omega)
      · rw [upd_n _ _ e, upd_n _ _ e]
        refine ⟨g1, g2, g3, fun k hk => ?_, fun j k hj hk => ?_⟩
        · obtain ⟨y1, y2, y3⟩ := g4 k hk
          rw [upd_n _ _ (by omega), upd_n _ _ (ne _ g (by unfold rN at *; omega) y3)]
          exact ⟨y1, y2, y3⟩
        · rw [upd_n _ _ (by omega), upd_n _ _ (by omega)]; exact g5 j k hj hk
    · by_cases ex : x = p
      · right
        rw [ex, upd_s, upd_s]
        refine ⟨rfl, r, mm ρ r, hr, ?_, rfl, ?_⟩
        · rw [upd_s, cl (by omega)]; omega
        · rw [upd_s, cl (by omega)]
      · rw [upd_n _ _ ex, upd_n _ _ ex]
        refine (h7 x hx).imp id (fun ⟨u1, g, k, u2, u3, u4, u5⟩ => ⟨u1, g, k, u2, ?_, u4, ?_⟩)
        · by_cases e : g = r
          · rw [e, upd_s, cl (by omega)]
            rw [e] at u3
            have hm' : (ρ 51 r).toNatClampNeg = mm ρ r := rfl
            omega
          · rw [upd_n _ _ e]; exact u3
        · have hk4 : k < 40 := by have := (h6.2.2 g u2).1.2; omega
          by_cases e : g = r
          · subst e
            have hm' : (ρ 51 g).toNatClampNeg = mm ρ g := rfl
            rw [upd_n _ _ (by omega)]; exact u5
          · rw [upd_n _ _ (by omega)]; exact u5
    · obtain ⟨y1, y2, y3⟩ := c3.2 g hg
      by_cases e : g = r
      · subst e
        rw [upd_s, upd_s, upd_s, upd_s, cl (by omega), if_neg (by omega)]
        refine ⟨rfl, rfl, fun k hk => ?_⟩
        unfold va_up
        rw [if_pos rfl]
        by_cases ek : k = mm ρ g
        · rw [ek, upd_s, upd_s]
        · rw [upd_n _ _ ek, upd_n _ _ (by omega)]
          have := y3 k (by have : (ρ 51 g).toNatClampNeg = mm ρ g := rfl; omega)
          rw [rows_in σ a1] at this
          exact this
      · rw [upd_n _ _ e, upd_n _ _ e, upd_n _ _ e, upd_n _ _ e]
        refine ⟨y1, y2, fun k hk => ?_⟩
        have hk4 : k < 40 := by have := (h6.2.2 g hg).1.2; omega
        unfold va_up
        rw [if_neg e, upd_n _ _ (by omega)]
        exact y3 k hk
    · rw [show p * 16 / 16 = p by omega, upd_s]
    · omega
    · rw [upd_n _ _ (ne _ g (by omega) hi.1)]; exact hi.1
    · by_cases e' : g = r
      · subst e'
        rw [upd_s, cl (by omega), show 40 * g + (mm ρ g + 1) - 1 = 40 * g + mm ρ g by omega, upd_s, cl (by omega)] at e
        exact absurd e.symm (ne _ g a1 hi.1)
      · rw [upd_n _ _ e']
        rw [upd_n _ _ e'] at e
        obtain ⟨v1, v2, v3, v4, v5, v6, _⟩ := TR_at hT hg
        have hm' : (ρ 51 g).toNatClampNeg = mm ρ g := rfl
        by_cases hz : mm ρ g = 0
        · rw [hm', hz, Nat.add_zero] at e
          by_cases hx' : 40 * g - 1 = 40 * r + mm ρ r
          · rw [hx', upd_s, cl (by omega)] at e
            exact absurd e.symm (ne _ g (by omega) hi.1)
          · rw [upd_n _ _ hx'] at e
            exact hi.2.2 (by rw [hm', hz, Nat.add_zero]; exact e)
        · rw [upd_n _ _ (by omega)] at e
          exact hi.2.2 e
    · have := ne _ g (by omega) hi.1
      have := hi.2.1
      omega
