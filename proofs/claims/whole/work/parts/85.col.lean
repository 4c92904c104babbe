def mix (σ ρ : xS) : xS := fun c => if c < 30 ∨ (32 ≤ c ∧ c < 40) then σ c else ρ c
theorem mix_c (σ ρ : xS) {c : Nat} (h : c < 30 ∨ (32 ≤ c ∧ c < 40)) : mix σ ρ c = σ c := if_pos h
theorem mix_r (σ ρ : xS) {c : Nat} (h : ¬ (c < 30 ∨ (32 ≤ c ∧ c < 40))) : mix σ ρ c = ρ c := if_neg h
theorem mix_rows (σ ρ : xS) : rowsF (mix σ ρ) = rowsF σ := by
  funext r k
  unfold rowsF
  by_cases h : r < 8
  · rw [if_pos h, if_pos h, mix_c _ _ (by omega)]
  · rw [if_neg h, if_neg h]
def Inv2 (t : Nat) (σ ρ : xS) : Prop :=
  (iObj (ρ 40) (ρ 41) (ρ 42) (ρ 43) (ρ 44) (ρ 45) (ρ 49) (ρ 31 13) (ρ 31 10) ∧ iPla (ρ 40) (ρ 44) (ρ 49) ∧ iFld (ρ 40) (ρ 42) (ρ 43) (ρ 46) (ρ 47) ∧ iRoo (ρ 40) (ρ 43) (ρ 54) (ρ 55) ∧
  iQue (ρ 40) (ρ 56) (ρ 31 19) ∧ iReg (σ 20) (ρ 51) (ρ 52) (ρ 53) (ρ 31 13) ∧ iOwn (σ 20) (ρ 50) (ρ 51) (ρ 52) (ρ 31 13) ∧ iLay (ρ 40) (ρ 42) (ρ 43) (ρ 44) (σ 20) (ρ 51) (ρ 52) (ρ 53) ∧
  (ρ 31 10 = nI ((ρ 31 10).toNatClampNeg) ∧ (ρ 31 10).toNatClampNeg ≤ t)) ∧
  cHea (σ 28) (σ 29) (ρ 40) (ρ 41) (ρ 42) (ρ 44) (ρ 46) (ρ 47) ∧ cRoo (σ 17) (σ 18) (ρ 54) (ρ 55) (ρ 44) ∧ cReg (σ 7 4) (ρ 31 13) (σ 22) (σ 23) (ρ 51) (ρ 53) (ρ 52) (rowsF σ) ∧
  cQue (σ 8 1) (ρ 31 19) (σ 24) (ρ 56) (ρ 44) ∧ cWat (ρ 40) (ρ 44) (ρ 45) (σ 9 1) (σ 25) ∧
  (σ 2 2 = ρ 31 21 ∧ σ 2 3 = ρ 31 22 ∧ σ 2 4 = ρ 31 23 ∧ σ 0 4 = ρ 31 24 ∧ σ 0 5 = ρ 31 25) ∧ cScr (σ 3 3) (σ 12) (σ 13)
theorem Inv2_s {t : Nat} {σ : xS} : Inv2 t σ σ ↔ Inv t σ := Iff.rfl
theorem Inv2_m {t : Nat} {σ ρ : xS} : Inv2 t σ ρ ↔ Inv t (mix σ ρ) := by
  unfold Inv2 Inv Ref Cls
  simp (disch := decide) only [mix_c, mix_r, mix_rows]
def oK (ρ : xS) (o : Nat) : Nat := (ρ 40 o).toNatClampNeg
def oM (ρ : xS) (o : Nat) : Nat := (ρ 42 o).toNatClampNeg
def oG (ρ : xS) (o : Nat) : Nat := (ρ 43 o).toNatClampNeg
def oP (ρ : xS) (o : Nat) : Nat := (ρ 44 o).toNatClampNeg
def oW (ρ : xS) (o : Nat) : Nat := (ρ 45 o).toNatClampNeg
def oS (ρ : xS) (o i : Nat) : Int32 := ρ 46 (15 * o + i)
def oV (ρ : xS) (o i : Nat) : Nat := (ρ 47 (15 * o + i)).toNatClampNeg
def oC (ρ : xS) (o i : Nat) : Int32 := tr (ρ 44) (ρ 46 (15 * o + i)) (ρ 47 (15 * o + i))
def oH (ρ : xS) (o : Nat) : Int32 := hdI (ρ 40 o) (ρ 41 o) (ρ 42 o)
def oR (ρ : xS) (k : Nat) : Nat := (ρ 55 k).toNatClampNeg
def oQ (ρ : xS) (k : Nat) : Nat := (ρ 56 k).toNatClampNeg
def oN (ρ : xS) : Nat := (ρ 31 19).toNatClampNeg
def oB (ρ : xS) : Nat → Prop := iA (ρ 40)
def sd (ρ : xS) (r q : Nat) : Prop := (oB ρ q ∧ oG ρ q < r) ∨ (∃ k, k < 16 ∧ ρ 54 k = 2 ∧ oR ρ k = q) ∨ (∃ k, k < oN ρ ∧ oQ ρ k = q)
def L_ (ρ : xS) (r : Nat) : Nat → Prop := Lv (oB ρ) (sd ρ r) (oK ρ) (oM ρ) (oS ρ) (oV ρ)
def Gd (ρ : xS) : Prop := (∀ o, oB ρ o → (ρ 40 o = nI (oK ρ o) ∧ oK ρ o < 3 ∧ ρ 42 o = nI (oM ρ o) ∧ oM ρ o < 16 ∧ (oK ρ o = 2 → 0 < oM ρ o)) ∧ (ρ 43 o = nI (oG ρ o) ∧ oG ρ o < 8) ∧ (ρ 44 o = nI (oP ρ o) ∧ oP ρ o + oM ρ o < 640) ∧ (ρ 45 o = nI (oW ρ o) ∧ oW ρ o < 100000) ∧ (oH ρ o &&& 15 = nI (oM ρ o) ∧ oH ρ o >>> (14 &&& 31) = nI (oK ρ o))) ∧
  (∀ o i, oB ρ o → i < oM ρ o → oS ρ o i ≠ 3 ∧ (oS ρ o i = 2 → ρ 47 (15 * o + i) = nI (oV ρ o i) ∧ oB ρ (oV ρ o i) ∧ oG ρ (oV ρ o i) ≤ oG ρ o)) ∧
  (∀ k, k < 16 → ρ 54 k = 2 → ρ 55 k = nI (oR ρ k) ∧ oB ρ (oR ρ k)) ∧ (ρ 31 19 = nI (oN ρ) ∧ oN ρ ≤ 640 ∧ ∀ k, k < oN ρ → ρ 56 k = nI (oQ ρ k) ∧ oB ρ (oQ ρ k)) ∧ lDis (oB ρ) (oP ρ) (oM ρ)
theorem Inv2_Gd {t : Nat} {σ ρ : xS} (ht : t < 100000) (h : Inv2 t σ ρ) : Gd ρ := by
  obtain ⟨⟨h1, h2, h3, h4, h5, h6, h7, h8, h9⟩, c1, c2, c3, c4, c5, c6, c7⟩ := h
  refine ⟨fun o ho => ?_, fun o i ho hi => ?_, fun k hk e2 => ?_, ⟨h5.1, h5.2.1, fun k hk => ⟨(h5.2.2.1 k hk).2, (h5.2.2.1 k hk).1⟩⟩, h8.2⟩
  · obtain ⟨⟨a1, b1⟩, ⟨a2, b2⟩, ⟨a3, b3⟩, a4, ⟨a5, b5⟩, ⟨a6, b6⟩, ⟨a7, b7⟩, a8⟩ := h1 o ho
    have l2 := (h8.1 o ho).2.1
    refine ⟨⟨a1, b1, a3, b3, fun e => a4 (by rw [a1]; unfold oK at e; rw [e]; rfl)⟩, ⟨a5, Nat.lt_of_lt_of_le b5 h6.2.1⟩, ⟨a6, ?_⟩, ⟨a7, ?_⟩, ?_, ?_⟩
    · unfold oP oM; omega
    · unfold oW; omega
    · have := hd_many b1 b2 a3 b3
      unfold oH oM; rw [this]; exact a3
    · have := hd_kind a1 b1 b2 b3
      unfold oH oK; rw [this]; exact a1
  · rcases h3 o i ho hi with ⟨h, _⟩ | h | ⟨h, u, hu, hv, hg⟩
    · unfold oS; rw [h]; exact ⟨by decide, fun e => absurd e n02⟩
    · unfold oS; rw [h]; exact ⟨by decide, fun e => absurd e n12⟩
    · have e : oV ρ o i = u := by unfold oV; rw [hv, cl (by have := hu.1; omega)]
      unfold oS; rw [h, e]; exact ⟨by decide, fun _ => ⟨hv, hu, hg⟩⟩
  · rcases h4 k hk with ⟨h, _⟩ | h | ⟨h, u, hu, hv, hg⟩
    · rw [e2] at h; exact absurd h n20
    · rw [e2] at h; exact absurd h n21
    · have e : oR ρ k = u := by unfold oR; rw [hv, cl (by have := hu.1; omega)]
      rw [e]; exact ⟨hv, hu⟩
theorem Gd_Vw {ρ : xS} {s c : Nat → Int32} (h : Gd ρ) (hR : HeapR s c (oB ρ) (oP ρ) (oM ρ) (oH ρ) (oS ρ) (oC ρ)) : Vw s c (oB ρ) (oP ρ) (oM ρ) (oK ρ) (oH ρ) (oS ρ) (oC ρ) (oV ρ) := by
  obtain ⟨g1, g2, g3, g4, g5⟩ := h
  refine ⟨hR, g5, fun o ho => ?_, fun o i ho hi => ⟨(g2 o i ho hi).1, fun e => ?_⟩⟩
  · obtain ⟨⟨a1, a2, a3, a4, a5⟩, _, ⟨_, a6⟩, _, a7, a8⟩ := g1 o ho
    exact ⟨a6, a4, a2, a7, a8, a5⟩
  · obtain ⟨b1, b2, b3⟩ := (g2 o i ho hi).2 e
    refine ⟨b2, ?_⟩
    have e' : ρ 46 (15 * o + i) = 2 := e
    show tr (ρ 44) (ρ 46 (15 * o + i)) (ρ 47 (15 * o + i)) = _
    rw [e', tr_2]
    exact (g1 _ b2).2.2.1.1
theorem Gd_FdR {ρ : xS} (h : Gd ρ) : FdR (ρ 40) (ρ 42) (ρ 46) (ρ 47) (oM ρ) (oK ρ) (oS ρ) (oV ρ) := by
  obtain ⟨g1, g2, g3, g4, g5⟩ := h
  intro o ho
  obtain ⟨⟨a1, a2, a3, a4, a5⟩, _⟩ := g1 o ho
  exact ⟨a3, a4, a1, a2, a5, fun i hi => ⟨rfl, fun e => ⟨((g2 o i ho hi).2 e).1, ((g2 o i ho hi).2 e).2.1⟩⟩⟩
theorem Gd_Rt {ρ : xS} (h : Gd ρ) : Rt (ρ 40) (ρ 42) (ρ 43) (ρ 46) (ρ 47) (oM ρ) (oG ρ) := by
  obtain ⟨g1, g2, g3, g4, g5⟩ := h
  intro o ho
  obtain ⟨⟨a1, a2, a3, a4, a5⟩, ⟨a6, a7⟩, _⟩ := g1 o ho
  exact ⟨a3, a4, a6, a7, fun i hi e => ⟨oV ρ o i, ((g2 o i ho hi).2 e).2.1.1, ((g2 o i ho hi).2 e).1⟩⟩
noncomputable def clr (ρ : xS) (Z : Nat → Prop) : xS := va_up (va_up ρ 46 (zc Z (ρ 46))) 47 (zc Z (ρ 47))
theorem clr_46 (ρ : xS) (Z : Nat → Prop) : clr ρ Z 46 = zc Z (ρ 46) := by unfold clr; simp (disch := omega) only [forall_eq, true_and, and_true, and_self, not_true_eq_false, not_false_eq_true, false_imp_iff, true_imp_iff, imp_self, implies_true, ne_eq, reduceIte, cl, cl0, cl1, cl2, vpn, vp0, le8, le16, le40, le640, le1400, le6400, lt8, lt16, le15, le2, nI_leI, nI_ltI, nI_eq, nI_1, nI_add, n_le0, n_lt0, n_0le, n_eq0, n_eq1, n_eq2, n_m1, n_m1r, Nat.reduceEqDiff, Nat.reduceAdd, Int32.add_zero, nI_pred, div16, mul15, mul40, mul16, mul640, mulr16, xu_s, xu_c, xu_k, xu_cc, rows_xu, xf_s, xf_c, rows_xf, xul_c, rows_xul, xul_L, lgc]
theorem clr_47 (ρ : xS) (Z : Nat → Prop) : clr ρ Z 47 = zc Z (ρ 47) := by unfold clr; simp (disch := omega) only [forall_eq, true_and, and_true, and_self, not_true_eq_false, not_false_eq_true, false_imp_iff, true_imp_iff, imp_self, implies_true, ne_eq, reduceIte, cl, cl0, cl1, cl2, vpn, vp0, le8, le16, le40, le640, le1400, le6400, lt8, lt16, le15, le2, nI_leI, nI_ltI, nI_eq, nI_1, nI_add, n_le0, n_lt0, n_0le, n_eq0, n_eq1, n_eq2, n_m1, n_m1r, Nat.reduceEqDiff, Nat.reduceAdd, Int32.add_zero, nI_pred, div16, mul15, mul40, mul16, mul640, mulr16, xu_s, xu_c, xu_k, xu_cc, rows_xu, xf_s, xf_c, rows_xf, xul_c, rows_xul, xul_L, lgc]
theorem clr_d (ρ : xS) (Z : Nat → Prop) {d : Nat} (h : d ≠ 46 ∧ d ≠ 47) : clr ρ Z d = ρ d := by unfold clr; rw [xf_c _ _ _ h.2, xf_c _ _ _ h.1]
theorem clr_S (ρ : xS) (Z : Nat → Prop) (o i : Nat) : (Z (15 * o + i) → oS (clr ρ Z) o i = 0 ∧ oC (clr ρ Z) o i = 0) ∧ (¬ Z (15 * o + i) → oS (clr ρ Z) o i = oS ρ o i ∧ oC (clr ρ Z) o i = oC ρ o i ∧ oV (clr ρ Z) o i = oV ρ o i ∧ clr ρ Z 47 (15 * o + i) = ρ 47 (15 * o + i)) := by
  unfold oS oC oV
  rw [clr_46, clr_47, clr_d _ _ (by decide)]
  refine ⟨fun h => ?_, fun h => ?_⟩
  · rw [zc_y h, zc_y h, tr_n n02]; exact ⟨rfl, rfl⟩
  · rw [zc_n h, zc_n h]; exact ⟨rfl, rfl, rfl, rfl⟩
theorem Gd_clr {ρ : xS} (h : Gd ρ) (Z : Nat → Prop) : Gd (clr ρ Z) := by
  obtain ⟨g1, g2, g3, g4, g5⟩ := h
  refine ⟨g1, fun o i ho hi => ?_, g3, g4, g5⟩
  obtain ⟨c1, c2⟩ := clr_S ρ Z o i
  by_cases hz : Z (15 * o + i)
  · rw [(c1 hz).1]; exact ⟨by decide, fun e => absurd e n02⟩
  · obtain ⟨d1, d2, d3, d4⟩ := c2 hz
    rw [d1, d3, d4]; exact g2 o i ho hi
theorem HeapR_clr {ρ : xS} {s c : Nat → Int32} {Z : Nat → Prop} {Zf : Nat → Nat → Prop} (hz : ∀ o i, oB ρ o → i < oM ρ o → (Z (15 * o + i) ↔ Zf o i)) (h : HeapR s c (oB ρ) (oP ρ) (oM ρ) (oH ρ) (zf Zf (oS ρ)) (zf Zf (oC ρ))) : HeapR s c (oB (clr ρ Z)) (oP (clr ρ Z)) (oM (clr ρ Z)) (oH (clr ρ Z)) (oS (clr ρ Z)) (oC (clr ρ Z)) := by
  refine HeapR_c (A := oB ρ) (pl := oP ρ) (mn := oM ρ) (hd := oH ρ) h (fun o i ho hi => ?_)
  obtain ⟨c1, c2⟩ := clr_S ρ Z o i
  by_cases x : Z (15 * o + i)
  · rw [zf_y ((hz o i ho hi).mp x), zf_y ((hz o i ho hi).mp x)]; exact c1 x
  · rw [zf_n (fun y => x ((hz o i ho hi).mpr y)), zf_n (fun y => x ((hz o i ho hi).mpr y))]
    exact ⟨(c2 x).1, (c2 x).2.1⟩
def wZ (ρ : xS) (L : Nat → Prop) (n : Nat) : Prop := oB ρ (n / 15) ∧ n % 15 < oM ρ (n / 15) ∧ L (n / 15) ∧ oK ρ (n / 15) = 1 ∧ oS ρ (n / 15) (n % 15) = 2 ∧ ¬ L (oV ρ (n / 15) (n % 15))
def kZ (ρ : xS) (L : Nat → Prop) (n : Nat) : Prop := oB ρ (n / 15) ∧ n % 15 < oM ρ (n / 15) ∧ L (n / 15) ∧ oK ρ (n / 15) = 2 ∧ oS ρ (n / 15) 0 = 2 ∧ ¬ L (oV ρ (n / 15) 0)
theorem wZ_at {ρ : xS} {L : Nat → Prop} (h : Gd ρ) (o i : Nat) (ho : oB ρ o) (hi : i < oM ρ o) : wZ ρ L (15 * o + i) ↔ (L o ∧ oK ρ o = 1 ∧ oS ρ o i = 2 ∧ ¬ L (oV ρ o i)) := by
  have := (h.1 o ho).1.2.2.2.1
  obtain ⟨d1, d2⟩ := d15 (o := o) (show i < 15 by omega)
  unfold wZ
  rw [d1, d2]
  exact ⟨fun x => x.2.2, fun x => ⟨ho, hi, x⟩⟩
theorem kZ_at {ρ : xS} {L : Nat → Prop} (h : Gd ρ) (o i : Nat) (ho : oB ρ o) (hi : i < oM ρ o) : kZ ρ L (15 * o + i) ↔ (L o ∧ oK ρ o = 2 ∧ oS ρ o 0 = 2 ∧ ¬ L (oV ρ o 0)) := by
  have := (h.1 o ho).1.2.2.2.1
  obtain ⟨d1, d2⟩ := d15 (o := o) (show i < 15 by omega)
  unfold kZ
  rw [d1, d2]
  exact ⟨fun x => x.2.2, fun x => ⟨ho, hi, x⟩⟩
noncomputable def r1 (ρ : xS) (r : Nat) : xS := clr ρ (wZ ρ (L_ ρ r))
noncomputable def r2 (ρ : xS) (r : Nat) (dd : Nat → Nat) (N : Nat) : xS := dus (r1 ρ r) (cw (fun _ => True) dd (fun _ => 0) (ρ 45) N) (cw (fun _ => True) (fun j => oN ρ + j) (fun j => nI (dd j)) (ρ 56) N) (nI (oN ρ + N))
noncomputable def L2 (ρ : xS) (r : Nat) (dd : Nat → Nat) (N : Nat) : Nat → Prop := L_ (r2 ρ r dd N) r
noncomputable def r3 (ρ : xS) (r : Nat) (dd : Nat → Nat) (N : Nat) : xS := clr (r2 ρ r dd N) (kZ (r2 ρ r dd N) (L2 ρ r dd N))
noncomputable def r4 (ρ : xS) (r : Nat) (dd : Nat → Nat) (N : Nat) : xS := clr (r3 ρ r dd N) (wZ (r3 ρ r dd N) (L2 ρ r dd N))
def DD (ρ : xS) (r : Nat) (dd : Nat → Nat) (N : Nat) : Prop := (∀ j, j < N → oB ρ (dd j) ∧ ¬ L_ ρ r (dd j) ∧ 0 < oW ρ (dd j)) ∧ (∀ j k, j < k → k < N → oW ρ (dd j) < oW ρ (dd k)) ∧ (∀ o, oB ρ o → ¬ L_ ρ r o → 0 < oW ρ o → ∃ j, j < N ∧ dd j = o) ∧ oN ρ + N ≤ 640
theorem r2_Q {ρ : xS} {r : Nat} {dd : Nat → Nat} {N : Nat} : (∀ k, k < oN ρ → r2 ρ r dd N 56 k = ρ 56 k) ∧ (∀ j, j < N → r2 ρ r dd N 56 (oN ρ + j) = nI (dd j)) := by
  unfold r2
  rw [dus_56]
  exact ⟨fun k hk => cw_no N (fun j _ _ => by omega), fun j hj => cw_at N hj trivial rfl (fun i _ _ _ e => by rw [show i = j by omega])⟩
theorem Gd_r2 {ρ : xS} {r : Nat} {dd : Nat → Nat} {N : Nat} (h : Gd ρ) (hd : DD ρ r dd N) : Gd (r2 ρ r dd N) := by
  obtain ⟨g1, g2, g3, g4, g5⟩ := Gd_clr h (wZ ρ (L_ ρ r))
  have e45 : r2 ρ r dd N 45 = cw (fun _ => True) dd (fun _ => 0) (ρ 45) N := by unfold r2; rw [dus_45]
  have e19 : r2 ρ r dd N 31 19 = nI (oN ρ + N) := by unfold r2; rw [dus_31]
  have eN : oN (r2 ρ r dd N) = oN ρ + N := by unfold oN; rw [e19, cl (by have := hd.2.2.2; omega)]; rfl
  refine ⟨fun o ho => ?_, g2, g3, ⟨?_, ?_, fun k hk => ?_⟩, g5⟩
  · obtain ⟨a1, a2, a3, a4, a5⟩ := g1 o ho
    refine ⟨a1, a2, a3, ?_, a5⟩
    unfold oW
    rw [e45]
    by_cases hx : ∃ j, j < N ∧ dd j = o
    · obtain ⟨j, j1, j2⟩ := hx
      rw [cw_c j1 trivial j2]; exact ⟨rfl, by decide⟩
    · rw [cw_no N (fun j hj _ e => hx ⟨j, hj, e⟩)]; exact a4
  · rw [e19, eN]
  · rw [eN]; exact hd.2.2.2
  · rw [eN] at hk
    by_cases x : k < oN ρ
    · have e := (r2_Q (ρ := ρ) (r := r) (dd := dd) (N := N)).1 k x
      unfold oQ
      rw [e]; exact g4.2.2 k x
    · have e := (r2_Q (ρ := ρ) (r := r) (dd := dd) (N := N)).2 (k - oN ρ) (by omega)
      rw [show oN ρ + (k - oN ρ) = k by omega] at e
      have b := hd.1 (k - oN ρ) (by omega)
      have e' : oQ (r2 ρ r dd N) k = dd (k - oN ρ) := by unfold oQ; rw [e, cl (by have := b.1.1; omega)]
      rw [e, e']; exact ⟨rfl, b.1⟩
theorem oN_r2 {ρ : xS} {r : Nat} {dd : Nat → Nat} {N : Nat} (hd : DD ρ r dd N) : oN (r2 ρ r dd N) = oN ρ + N := by
  have e19 : r2 ρ r dd N 31 19 = nI (oN ρ + N) := by unfold r2; rw [dus_31]
  unfold oN; rw [e19, cl (by have := hd.2.2.2; omega)]; rfl
theorem L12 {ρ : xS} {r : Nat} {dd : Nat → Nat} {N : Nat} (hg : Gd ρ) (hd : DD ρ r dd N) {o : Nat} (h : L_ ρ r o) : L2 ρ r dd N o := by
  have hf : ∀ q i, oB ρ q → oK ρ q ≠ 1 → i < oM ρ q → oS (r2 ρ r dd N) q i = oS ρ q i ∧ oV (r2 ρ r dd N) q i = oV ρ q i := fun q i hq hk hi => by
    have hz : ¬ wZ ρ (L_ ρ r) (15 * q + i) := fun x => hk ((wZ_at hg q i hq hi).mp x).2.1
    have := (clr_S ρ (wZ ρ (L_ ρ r)) q i).2 hz
    exact ⟨this.1, this.2.2.1⟩
  refine h (L2 ρ r dd N) (fun q hq => Lv_sd ?_) (fun q i hq hx hi h2 hh => ?_)
  · rcases hq with a | a | ⟨k, k1, k2⟩
    · exact Or.inl a
    · exact Or.inr (Or.inl a)
    · refine Or.inr (Or.inr ⟨k, by rw [oN_r2 hd]; omega, ?_⟩)
      unfold oQ
      rw [r2_Q.1 k k1]; exact k2
  · have hk : oK ρ q ≠ 1 := by rcases hh with e | e <;> omega
    obtain ⟨e1, e2⟩ := hf q i hq hk hi
    rw [← e2]
    refine Lv_clo (A := oB (r2 ρ r dd N)) q i hq hx hi (by rw [e1]; exact h2) ?_
    rcases hh with e | ⟨e, e', e''⟩
    · exact Or.inl e
    · refine Or.inr ⟨e, e', fun x => ?_⟩
      obtain ⟨f1, f2⟩ := hf q 0 hq hk (by omega)
      rw [f1] at x
      rw [f2]; exact e'' x
theorem L_A {ρ : xS} {r : Nat} (h : Gd ρ) {o : Nat} (ho : L_ ρ r o) : oB ρ o := by
  refine Lv_A (fun q hq => ?_) (fun q i hq hi h2 => ((h.2.1 q i hq hi).2 h2).2.1) ho
  rcases hq with a | ⟨k, k1, k2, k3⟩ | ⟨k, k1, k2⟩
  · exact a.1
  · rw [← k3]; exact (h.2.2.1 k k1 k2).2
  · rw [← k2]; exact (h.2.2.2.1.2.2 k k1).2
theorem L_old {ρ : xS} {r o : Nat} (ho : oB ρ o) (hn : ¬ L_ ρ r o) : r ≤ oG ρ o := by
  by_cases x : r ≤ oG ρ o
  · exact x
  · exact absurd (Lv_sd (Or.inl ⟨ho, by omega⟩)) hn
