def rr (ρ : xS) (q k : Nat) : Nat := (ρ 52 (40 * q + k)).toNatClampNeg
def mm (ρ : xS) (q : Nat) : Nat := (ρ 51 q).toNatClampNeg
def rN (ρ : xS) : Nat := (ρ 31 13).toNatClampNeg
noncomputable def P7 (ρ : xS) (r : Nat) (dd : Nat → Nat) (N : Nat) : Nat → Nat := plQ (L2 ρ r dd N) (oM ρ) (rr ρ) (mm ρ) r (oP ρ) (rN ρ - r)
noncomputable def s7 (ρ : xS) (r : Nat) (dd : Nat → Nat) (N : Nat) (q : Nat) : Nat × Nat × (Nat → Nat) × Nat := slQ (L2 ρ r dd N) (oM ρ) (rr ρ) (mm ρ) r (oP ρ) (q - r)
noncomputable def g7 (ρ : xS) (r : Nat) (dd : Nat → Nat) (N : Nat) : Nat := cnt (fun o => oB ρ o ∧ ¬ L2 ρ r dd N o) 640
noncomputable def K7 (ρ : xS) (r : Nat) (dd : Nat → Nat) (N : Nat) : Nat → Int32 := cw (fun o => oB ρ o ∧ ¬ L2 ρ r dd N o) id (fun _ => -1) (ρ 40) 640
noncomputable def O5 (ρ : xS) (r : Nat) (dd : Nat → Nat) (N : Nat) : Nat → Int32 := cw (fun o => oB ρ o ∧ ¬ L2 ρ r dd N o) (oP ρ) (fun _ => -1) (ρ 49) 640
noncomputable def f44 (ρ : xS) (r : Nat) (dd : Nat → Nat) (N : Nat) : Nat → Int32 := fun o => @ite _ (L2 ρ r dd N o) (Classical.propDecidable _) (nI (P7 ρ r dd N o)) (ρ 44 o)
noncomputable def f49 (ρ : xS) (r : Nat) (dd : Nat → Nat) (N : Nat) : Nat → Int32 := fun p => if p < 640 then @dite _ (∃ o, L2 ρ r dd N o ∧ P7 ρ r dd N o = p) (Classical.propDecidable _) (fun h => nI (Classical.choose h)) (fun _ => -1) else O5 ρ r dd N p
def fr7 (ρ : xS) (r : Nat) (dd : Nat → Nat) (N : Nat) : Nat → Prop := fre (rr ρ) (mm ρ) r (rN ρ - r) (fun j => (slQ (L2 ρ r dd N) (oM ρ) (rr ρ) (mm ρ) r (oP ρ) j).1)
noncomputable def f50 (ρ : xS) (r : Nat) (dd : Nat → Nat) (N : Nat) : Nat → Int32 := fun p => @ite _ (fr7 ρ r dd N p) (Classical.propDecidable _) 0 (ρ 50 p)
noncomputable def f51 (ρ : xS) (r : Nat) (dd : Nat → Nat) (N : Nat) : Nat → Int32 := fun q => if r ≤ q ∧ q < rN ρ then nI (s7 ρ r dd N q).1 else ρ 51 q
noncomputable def f53 (ρ : xS) (r : Nat) (dd : Nat → Nat) (N : Nat) : Nat → Int32 := fun q => if r ≤ q ∧ q < rN ρ then atI (s7 ρ r dd N q).1 (s7 ρ r dd N q).2.1 else ρ 53 q
noncomputable def f31 (ρ : xS) (r : Nat) (dd : Nat → Nat) (N : Nat) : Nat → Int32 := upd (upd (upd (r4 ρ r dd N 31) 23 (ρ 31 23 + nI (mvQ (L2 ρ r dd N) (oM ρ) (rr ρ) (mm ρ) r (oP ρ) (rN ρ - r)))) 21 (ρ 31 21 + 1)) 22 (ρ 31 22 + nI (g7 ρ r dd N))
noncomputable def r7 (ρ : xS) (r : Nat) (dd : Nat → Nat) (N : Nat) : xS := va_up (va_up (va_up (va_up (va_up (va_up (va_up (r4 ρ r dd N) 40 (K7 ρ r dd N)) 44 (f44 ρ r dd N)) 49 (f49 ρ r dd N)) 50 (f50 ρ r dd N)) 51 (f51 ρ r dd N)) 53 (f53 ρ r dd N)) 31 (f31 ρ r dd N)
theorem RH_of {t : Nat} {σ ρ : xS} {r : Nat} {dd : Nat → Nat} {N : Nat} (ht : t < 100000) (hI : Inv2 t σ ρ) (hD : DD ρ r dd N) : RH (L2 ρ r dd N) (oB ρ) (oM ρ) (oG ρ) (rr ρ) (mm ρ) r (rN ρ) (oP ρ) := by
  have hG := Inv2_Gd ht hI
  have hG2 := Gd_r2 hG hD
  obtain ⟨⟨h1, h2, h3, h4, h5, h6, h7, h8, h9⟩, c1, c2, c3, c4, c5, c6, c7⟩ := id hI
  have hR8 := h6.2.1
  refine ⟨fun o ho => L_A hG2 ho, fun o ho => ⟨(h1 o ho).2.2.2.2.1.2, ?_, (h8.1 o ho).2.1, ?_⟩, h8.2, fun q q' k k' hq hq' hk hk' e => ?_⟩
  · by_cases x : L2 ρ r dd N o
    · exact Or.inl x
    · exact Or.inr (L_old (ρ := r2 ρ r dd N) ho x)
  · have hp := (hG.1 o ho).2.2.1.2
    have l1 := (h8.1 o ho).1
    have hg := (hG.1 o ho).2.1
    rcases h7 (oP ρ o / 16) (by omega) with ⟨x, _⟩ | ⟨_, q, k, hq, hk, x, y⟩
    · have l1' : σ 20 (oP ρ o / 16) = nI (oG ρ o) := l1
      rw [x] at l1'
      exact absurd l1' (by rw [n_m1r (by omega)]; exact id)
    · have l1' : σ 20 (oP ρ o / 16) = nI (oG ρ o) := l1
      rw [x] at l1'
      have := (nI_eq (by omega) (by omega)).mp l1'
      subst this
      exact ⟨k, hk, y.symm⟩
  · have a := (h6.2.2 q hq).2.2.2.1 k hk
    have b := (h6.2.2 q' hq').2.2.2.1 k' hk'
    have e' : (ρ 52 (40 * q + k)).toNatClampNeg = (ρ 52 (40 * q' + k')).toNatClampNeg := e
    have c := a.2.2
    rw [e', b.2.2] at c
    have qq : q = q' := ((nI_eq (by unfold rN at *; omega) (by unfold rN at *; omega)).mp c).symm
    subst qq
    refine ⟨rfl, ?_⟩
    rcases Nat.lt_trichotomy k k' with x | x | x
    · exact absurd e' ((h6.2.2 q hq).2.2.2.2 k k' x hk')
    · exact x
    · exact absurd e'.symm ((h6.2.2 q hq).2.2.2.2 k' k x hk)
theorem P7_at {t : Nat} {σ ρ : xS} {r : Nat} {dd : Nat → Nat} {N : Nat} (ht : t < 100000) (hI : Inv2 t σ ρ) (hD : DD ρ r dd N) (hr : r < rN ρ) :
    (∀ o, L2 ρ r dd N o → P7 ρ r dd N o % 16 + oM ρ o < 16 ∧ P7 ρ r dd N o + oM ρ o < 640 ∧ ∃ k, k < mm ρ (oG ρ o) ∧ P7 ρ r dd N o / 16 = rr ρ (oG ρ o) k) ∧ lDis (L2 ρ r dd N) (P7 ρ r dd N) (oM ρ) ∧
    (∀ o, L2 ρ r dd N o → oG ρ o < r → P7 ρ r dd N o = oP ρ o) ∧
    (∀ o, L2 ρ r dd N o → r ≤ oG ρ o → ∃ y, P7 ρ r dd N o = rpos (rr ρ (oG ρ o)) y ∧ y % 16 + oM ρ o < 16 ∧ y + oM ρ o + 1 ≤ 16 * ((s7 ρ r dd N (oG ρ o)).1 - 1) + (s7 ρ r dd N (oG ρ o)).2.1 ∧ 0 < (s7 ρ r dd N (oG ρ o)).1) ∧
    (∀ q, r ≤ q → q < rN ρ → (s7 ρ r dd N q).1 ≤ mm ρ q ∧ (s7 ρ r dd N q).2.1 ≤ 16 ∧ ((s7 ρ r dd N q).1 = 0 → (s7 ρ r dd N q).2.1 = 16) ∧ (0 < (s7 ρ r dd N q).1 → 1 ≤ (s7 ρ r dd N q).2.1)) ∧
    (∀ q k, q < rN ρ → k < mm ρ q → rr ρ q k < 40 ∧ σ 20 (rr ρ q k) = nI q) := by
  have hH := RH_of ht hI hD
  have hRI := RI_all hH (rN ρ - r) (by omega)
  obtain ⟨⟨h1, h2, h3, h4, h5, h6, h7, h8, h9⟩, c1, c2, c3, c4, c5, c6, c7⟩ := id hI
  have rows : ∀ q k, q < rN ρ → k < mm ρ q → rr ρ q k < 40 ∧ σ 20 (rr ρ q k) = nI q := fun q k hq hk => ((h6.2.2 q hq).2.2.2.1 k hk).2
  refine ⟨fun o ho => ?_, fun o q ho hq => hRI.2.1 o q ⟨hH.1 o ho, Or.inl ho⟩ ⟨hH.1 q hq, Or.inl hq⟩, fun o ho hg => hRI.2.2.1 o (fun x => by omega), fun o ho hg => hRI.2.2.2 o ho hg (by have := (hH.2.1 o (hH.1 o ho)).1; omega), fun q h1' h2' => ?_, rows⟩
  · obtain ⟨a, k, k1, k2⟩ := hRI.1 o (hH.1 o ho) (Or.inl ho)
    have := (rows _ k (hH.2.1 o (hH.1 o ho)).1 k1).1
    refine ⟨a, ?_, k, k1, k2⟩
    have k2' : P7 ρ r dd N o / 16 = rr ρ (oG ρ o) k := k2
    have a' : P7 ρ r dd N o % 16 + oM ρ o < 16 := a
    omega
  · have hi := RI_all hH (q - r) (by omega)
    have := slS_le (RI_sh hH hi (by omega)) (Nat.le_refl _)
    unfold s7 slQ
    rw [show r + (q - r) = q by omega] at this ⊢
    exact this
theorem r4_fld {ρ : xS} {r : Nat} {dd : Nat → Nat} {N : Nat} (o i : Nat) : (r4 ρ r dd N 46 (15 * o + i) = 0 ∧ r4 ρ r dd N 47 (15 * o + i) = 0) ∨ (r4 ρ r dd N 46 (15 * o + i) = ρ 46 (15 * o + i) ∧ r4 ρ r dd N 47 (15 * o + i) = ρ 47 (15 * o + i)) := by
  have step : ∀ (x : xS) (Z : Nat → Prop), (clr x Z 46 (15 * o + i) = 0 ∧ clr x Z 47 (15 * o + i) = 0) ∨ (clr x Z 46 (15 * o + i) = x 46 (15 * o + i) ∧ clr x Z 47 (15 * o + i) = x 47 (15 * o + i)) := fun x Z => by
    rw [clr_46, clr_47]
    by_cases z : Z (15 * o + i)
    · left; exact ⟨zc_y z, zc_y z⟩
    · right; exact ⟨zc_n z, zc_n z⟩
  rcases step (r3 ρ r dd N) (wZ (r3 ρ r dd N) (L2 ρ r dd N)) with a | a
  · exact Or.inl a
  · rcases step (r2 ρ r dd N) (kZ (r2 ρ r dd N) (L2 ρ r dd N)) with b | b
    · left; exact ⟨a.1.trans b.1, a.2.trans b.2⟩
    · rcases step ρ (wZ ρ (L_ ρ r)) with c | c
      · left; exact ⟨(a.1.trans b.1).trans c.1, (a.2.trans b.2).trans c.2⟩
      · right; exact ⟨(a.1.trans b.1).trans c.1, (a.2.trans b.2).trans c.2⟩
theorem r4_live {ρ : xS} {r : Nat} {dd : Nat → Nat} {N : Nat} (hG : Gd ρ) (hD : DD ρ r dd N) {o i : Nat} (ho : L2 ρ r dd N o) (hi : i < oM ρ o) (h2 : oS (r4 ρ r dd N) o i = 2) : L2 ρ r dd N (oV (r4 ρ r dd N) o i) := by
  have hG2 := Gd_r2 hG hD
  have hG3 : Gd (r3 ρ r dd N) := Gd_clr hG2 _
  have hB : oB ρ o := L_A hG2 ho
  obtain ⟨x1, x2⟩ := clr_S (r3 ρ r dd N) (wZ (r3 ρ r dd N) (L2 ρ r dd N)) o i
  have nz : ¬ wZ (r3 ρ r dd N) (L2 ρ r dd N) (15 * o + i) := fun z => by
    have e : oS (r4 ρ r dd N) o i = 0 := (x1 z).1
    rw [e] at h2
    exact absurd h2 n02
  obtain ⟨e1, _, e2, _⟩ := x2 nz
  change oS (r4 ρ r dd N) o i = _ at e1
  change oV (r4 ρ r dd N) o i = _ at e2
  rw [e1] at h2
  rw [e2]
  obtain ⟨y1, y2⟩ := clr_S (r2 ρ r dd N) (kZ (r2 ρ r dd N) (L2 ρ r dd N)) o i
  have nk : ¬ kZ (r2 ρ r dd N) (L2 ρ r dd N) (15 * o + i) := fun z => by
    have e : oS (r3 ρ r dd N) o i = 0 := (y1 z).1
    rw [e] at h2
    exact absurd h2 n02
  obtain ⟨d1, _, d2, _⟩ := y2 nk
  change oS (r3 ρ r dd N) o i = _ at d1
  change oV (r3 ρ r dd N) o i = _ at d2
  rw [wZ_at hG3 o i hB hi] at nz
  rw [kZ_at hG2 o i hB hi] at nk
  have hk := (hG2.1 o hB).1.2.1
  rcases (show oK ρ o = 0 ∨ oK ρ o = 1 ∨ oK ρ o = 2 by
    have : oK (r2 ρ r dd N) o = oK ρ o := rfl
    omega) with k0 | k1 | k2
  · rw [d1] at h2
    rw [d2]
    exact Lv_clo (A := oB (r2 ρ r dd N)) o i hB ho hi h2 (Or.inl k0)
  · exact Classical.byContradiction (fun x => nz ⟨ho, k1, h2, x⟩)
  · rw [d1] at h2
    rw [d2]
    have key : oS (r2 ρ r dd N) o 0 = 2 → L2 ρ r dd N (oV (r2 ρ r dd N) o 0) := fun e => Classical.byContradiction (fun x => nk ⟨ho, k2, e, x⟩)
    rcases Nat.eq_zero_or_pos i with i0 | i0
    · subst i0; exact key h2
    · exact Lv_clo (A := oB (r2 ρ r dd N)) o i hB ho hi h2 (Or.inr ⟨k2, i0, key⟩)
theorem HeapR_2 {s c : Nat → Int32} {A : Nat → Prop} {pl mn : Nat → Nat} {hd : Nat → Int32} {fs fc : Nat → Nat → Int32} (h : HeapR s c A pl mn hd fs fc) {p : Nat} (hp : p < 640) (e : s p = 2) : ∃ o i, A o ∧ i < mn o ∧ p = pl o + 1 + i ∧ fs o i = 2 ∧ c p = fc o i := by
  by_cases hc : ∃ o, A o ∧ pl o ≤ p ∧ p ≤ pl o + mn o
  · obtain ⟨o, ho, ha, hb⟩ := hc
    by_cases e' : p = pl o
    · have := (h.1 o ho).1
      rw [← e', e] at this
      exact absurd this (by decide)
    · have := h.2.1 o (p - pl o - 1) ho (by omega)
      have ep : pl o + 1 + (p - pl o - 1) = p := by omega
      rw [ep] at this
      exact ⟨o, p - pl o - 1, ho, by omega, ep.symm, by rw [← this.1]; exact e, this.2⟩
  · have := h.2.2 p hp (fun o ho => by
      by_cases h' : p < pl o
      · exact Or.inl h'
      · right
        by_cases h'' : pl o + mn o < p
        · exact h''
        · exact absurd ⟨o, ho, by omega, by omega⟩ hc)
    rw [e] at this
    exact absurd this.1 (by decide)
theorem K7_iff {ρ : xS} {r : Nat} {dd : Nat → Nat} {N : Nat} (hA : ∀ o, L2 ρ r dd N o → oB ρ o) (o : Nat) : (iA (K7 ρ r dd N) o ↔ L2 ρ r dd N o) ∧ (L2 ρ r dd N o → K7 ρ r dd N o = ρ 40 o) := by
  obtain ⟨x1, x2⟩ := cw_id (B := fun o => oB ρ o ∧ ¬ L2 ρ r dd N o) (v := fun _ => -1) (f := ρ 40) 640 o
  change _ → _ → K7 ρ r dd N o = _ at x1
  change _ → K7 ρ r dd N o = _ at x2
  by_cases h : L2 ρ r dd N o
  · have e := x2 (fun y => y.2.2 h)
    refine ⟨⟨fun _ => h, fun _ => ⟨(hA o h).1, by rw [e]; exact (hA o h).2⟩⟩, fun _ => e⟩
  · refine ⟨⟨fun y => ?_, fun y => absurd y h⟩, fun y => absurd y h⟩
    by_cases hb : oB ρ o
    · exact absurd (x1 hb.1 ⟨hb, h⟩) y.2
    · have e := x2 (fun z => hb z.2.1)
      exact absurd ⟨y.1, by rw [← e]; exact y.2⟩ hb
