theorem f44_y {ρ : xS} {r : Nat} {dd : Nat → Nat} {N o : Nat} (h : L2 ρ r dd N o) : f44 ρ r dd N o = nI (P7 ρ r dd N o) := if_pos h
theorem f49_y {ρ : xS} {r : Nat} {dd : Nat → Nat} {N o : Nat} (h : L2 ρ r dd N o) (hp : P7 ρ r dd N o < 640) (hd : lDis (L2 ρ r dd N) (P7 ρ r dd N) (oM ρ)) : f49 ρ r dd N (P7 ρ r dd N o) = nI o := by
  unfold f49
  rw [if_pos hp]
  have hx : ∃ q, L2 ρ r dd N q ∧ P7 ρ r dd N q = P7 ρ r dd N o := ⟨o, h, rfl⟩
  rw [dif_pos hx]
  have := Classical.choose_spec hx
  congr 1
  by_cases e : Classical.choose hx = o
  · exact e
  · have := hd _ o this.1 h e; omega
theorem f49_c {ρ : xS} {r : Nat} {dd : Nat → Nat} {N p : Nat} (hp : p < 640) : f49 ρ r dd N p = -1 ∨ ∃ o, L2 ρ r dd N o ∧ f49 ρ r dd N p = nI o ∧ P7 ρ r dd N o = p := by
  unfold f49
  rw [if_pos hp]
  by_cases hx : ∃ q, L2 ρ r dd N q ∧ P7 ρ r dd N q = p
  · rw [dif_pos hx]
    exact Or.inr ⟨Classical.choose hx, (Classical.choose_spec hx).1, rfl, (Classical.choose_spec hx).2⟩
  · rw [dif_neg hx]; exact Or.inl rfl
theorem r7_Ref {t : Nat} {σ ρ : xS} {r : Nat} {dd : Nat → Nat} {N : Nat} (ht : t < 100000) (hI : Inv2 t σ ρ) (hD : DD ρ r dd N) (hr : r < rN ρ) {Ow : Nat → Int32} (hOw : ∀ p, (fr7 ρ r dd N p → Ow p = -1) ∧ (¬ fr7 ρ r dd N p → Ow p = σ 20 p)) :
    iObj (K7 ρ r dd N) (ρ 41) (ρ 42) (ρ 43) (f44 ρ r dd N) (r2 ρ r dd N 45) (f49 ρ r dd N) (ρ 31 13) (ρ 31 10) ∧ iPla (K7 ρ r dd N) (f44 ρ r dd N) (f49 ρ r dd N) ∧ iFld (K7 ρ r dd N) (ρ 42) (ρ 43) (r4 ρ r dd N 46) (r4 ρ r dd N 47) ∧ iRoo (K7 ρ r dd N) (ρ 43) (ρ 54) (ρ 55) ∧
    iQue (K7 ρ r dd N) (r2 ρ r dd N 56) (nI (oN ρ + N)) ∧ iReg Ow (f51 ρ r dd N) (ρ 52) (f53 ρ r dd N) (ρ 31 13) ∧ iOwn Ow (f50 ρ r dd N) (f51 ρ r dd N) (ρ 52) (ρ 31 13) ∧ iLay (K7 ρ r dd N) (ρ 42) (ρ 43) (f44 ρ r dd N) Ow (f51 ρ r dd N) (ρ 52) (f53 ρ r dd N) := by
  have hG := Inv2_Gd ht hI
  have hG2 := Gd_r2 hG hD
  have hA : ∀ o, L2 ρ r dd N o → oB ρ o := fun o ho => L_A hG2 ho
  have hH := RH_of ht hI hD
  obtain ⟨p1, p2, p3, p4, p5, p6⟩ := P7_at ht hI hD hr
  obtain ⟨⟨h1, h2, h3, h4, h5, h6, h7, h8, h9⟩, c1, c2, c3, c4, c5, c6, c7⟩ := id hI
  have hR8 := h6.2.1
  have rdis := hH.2.2.2
  have t44 : ∀ o, L2 ρ r dd N o → (f44 ρ r dd N o).toNatClampNeg = P7 ρ r dd N o := fun o ho => by rw [f44_y ho, cl (by have := (p1 o ho).2.1; omega)]
  have kA := fun o => (K7_iff hA o).1
  have kE := fun o => (K7_iff hA o).2
  have vk : ∀ q s v, vOk (ρ 40) (ρ 43) q s v → (∀ u, oB ρ u → s = 2 → v = nI u → L2 ρ r dd N u) → vOk (K7 ρ r dd N) (ρ 43) q s v := fun q s v h hu => by
    rcases h with h | h | ⟨h, u, x, y, z⟩
    · exact Or.inl h
    · exact Or.inr (Or.inl h)
    · exact Or.inr (Or.inr ⟨h, u, (kA u).mpr (hu u x h y), y, z⟩)
  have keep : ∀ q k, q < rN ρ → k < mm ρ q → (r ≤ q → k < (s7 ρ r dd N q).1) → Ow (rr ρ q k) = nI q := fun q k hq hk hl => by
    rw [(hOw (rr ρ q k)).2 ?_]
    · exact (p6 q k hq hk).2
    · rintro ⟨q', k', a, b, c, d, e⟩
      dsimp only at c
      obtain ⟨e1, e2⟩ := rdis q' q k' k (by omega) hq d hk e
      subst e1 e2
      have := hl a
      unfold s7 at this
      omega
  have e51 : ∀ q, q < rN ρ → (f51 ρ r dd N q).toNatClampNeg = (if r ≤ q then (s7 ρ r dd N q).1 else mm ρ q) ∧ f51 ρ r dd N q = nI ((f51 ρ r dd N q).toNatClampNeg) ∧ (f51 ρ r dd N q).toNatClampNeg ≤ mm ρ q := fun q hq => by
    unfold f51
    by_cases x : r ≤ q
    · have := p5 q x hq
      have m4 := (h6.2.2 q hq).1.2
      unfold mm at *
      rw [if_pos ⟨x, hq⟩, if_pos x, cl (by omega)]
      exact ⟨rfl, rfl, this.1⟩
    · rw [if_neg (by omega), if_neg x]
      exact ⟨rfl, (h6.2.2 q hq).1.1, Nat.le_refl _⟩
  refine ⟨fun o ho => ?_, fun p hp => ?_, fun o i ho hi => ?_, fun k hk => ?_, ?_, ⟨h6.1, h6.2.1, fun q hq => ?_⟩, fun p hp => ?_, fun o ho => ?_, fun o q ho hq hne => ?_⟩
  · have hL := (kA o).mp ho
    obtain ⟨b1, b2, b3, b4, b5, b6, b7, b8⟩ := h1 o (hA o hL)
    rw [kE o hL, t44 o hL]
    refine ⟨b1, b2, b3, b4, b5, ⟨f44_y hL, by have := (p1 o hL).2.1; omega⟩, ⟨(hG2.1 o (hA o hL)).2.2.2.1.1, ?_⟩, f49_y hL (by have := (p1 o hL).2.1; omega) p2⟩
    have e45 : r2 ρ r dd N 45 = cw (fun _ => True) dd (fun _ => 0) (ρ 45) N := by unfold r2; rw [dus_45]
    rw [e45]
    by_cases hx : ∃ j, j < N ∧ dd j = o
    · obtain ⟨j, j1, j2⟩ := hx
      rw [cw_c j1 trivial j2]; exact Nat.zero_le _
    · rw [cw_no N (fun j hj _ e => hx ⟨j, hj, e⟩)]; exact b7.2
  · rcases f49_c (ρ := ρ) (r := r) (dd := dd) (N := N) hp with x | ⟨o, o1, o2, o3⟩
    · exact Or.inl x
    · exact Or.inr ⟨o, (kA o).mpr o1, o2, by rw [t44 o o1]; exact o3⟩
  · have hL := (kA o).mp ho
    rcases r4_fld (ρ := ρ) (r := r) (dd := dd) (N := N) o i with ⟨a, b⟩ | ⟨a, b⟩
    · rw [a, b]; exact Or.inl ⟨rfl, rfl⟩
    · rw [a, b]
      refine vk _ _ _ (h3 o i (hA o hL) hi) (fun u hu e2 ev => ?_)
      have := r4_live hG hD hL hi (by show r4 ρ r dd N 46 (15 * o + i) = 2; rw [a]; exact e2)
      unfold oV at this
      rw [b, ev, cl (by have := hu.1; omega)] at this
      exact this
  · refine vk _ _ _ (h4 k hk) (fun u hu e2 ev => Lv_sd (Or.inr (Or.inl ⟨k, hk, e2, ?_⟩)))
    show (ρ 55 k).toNatClampNeg = u
    rw [ev, cl (by have := hu.1; omega)]
  · have hn := hD.2.2.2
    have en : (nI (oN ρ + N)).toNatClampNeg = oN ρ + N := cl (by omega)
    have qn := oN_r2 hD
    unfold iQue
    rw [en]
    have q1 : ∀ k, k < oN ρ + N → L2 ρ r dd N (oQ (r2 ρ r dd N) k) ∧ r2 ρ r dd N 56 k = nI (oQ (r2 ρ r dd N) k) := fun k hk => ⟨Lv_sd (Or.inr (Or.inr ⟨k, by rw [qn]; exact hk, rfl⟩)), (hG2.2.2.2.1.2.2 k (by rw [qn]; exact hk)).1⟩
    have qo : ∀ k, k < oN ρ → oQ (r2 ρ r dd N) k = oQ ρ k := fun k hk => by unfold oQ; rw [(r2_Q (ρ := ρ) (r := r) (dd := dd) (N := N)).1 k hk]
    have qd : ∀ j, j < N → oQ (r2 ρ r dd N) (oN ρ + j) = dd j := fun j hj => by unfold oQ; rw [(r2_Q (ρ := ρ) (r := r) (dd := dd) (N := N)).2 j hj, cl (by have := (hD.1 j hj).1.1; omega)]
    refine ⟨rfl, hn, fun k hk => ⟨(kA _).mpr (q1 k hk).1, (q1 k hk).2⟩, fun j k hj hk => ?_⟩
    show oQ (r2 ρ r dd N) j ≠ oQ (r2 ρ r dd N) k
    by_cases x : k < oN ρ
    · rw [qo k x, qo j (by omega)]; exact h5.2.2.2 j k hj x
    · obtain ⟨k', rfl⟩ : ∃ k', k = oN ρ + k' := ⟨k - oN ρ, by omega⟩
      rw [qd k' (by omega)]
      by_cases y : j < oN ρ
      · rw [qo j y]
        intro e
        refine (hD.1 k' (by omega)).2.1 ?_
        rw [← e]
        exact Lv_sd (Or.inr (Or.inr ⟨j, y, rfl⟩))
      · obtain ⟨j', rfl⟩ : ∃ j', j = oN ρ + j' := ⟨j - oN ρ, by omega⟩
        rw [qd j' (by omega)]
        intro e
        have := hD.2.1 j' k' (by omega) (by omega)
        rw [e] at this
        omega
  · obtain ⟨g1, g2, g3, g4, g5⟩ := h6.2.2 q hq
    obtain ⟨x1, x2, x3⟩ := e51 q hq
    refine ⟨⟨x2, Nat.le_trans x3 g1.2⟩, ?_, ?_, fun k hk => ?_, fun j k hj hk => g5 j k hj (Nat.lt_of_lt_of_le hk x3)⟩
    · unfold f53
      by_cases x : r ≤ q
      · rw [if_pos ⟨x, hq⟩]
        unfold atI
        have := p5 q x hq
        by_cases y : (s7 ρ r dd N q).1 = 0
        · rw [if_pos y]; exact ⟨rfl, by decide⟩
        · rw [if_neg y, cl (by omega)]; exact ⟨rfl, this.2.1⟩
      · rw [if_neg (fun y => x y.1)]; exact g2
    · rw [x1]
      unfold f53
      by_cases x : r ≤ q
      · rw [if_pos x, if_pos ⟨x, hq⟩]
        unfold atI
        have := p5 q x hq
        by_cases y : (s7 ρ r dd N q).1 = 0
        · rw [if_pos y]; exact ⟨fun _ => rfl, fun _ => y⟩
        · rw [if_neg y, cl (by omega)]
          have := this.2.2.2 (by omega)
          omega
      · rw [if_neg x, if_neg (fun y => x y.1)]; exact g3
    · obtain ⟨y1, y2, y3⟩ := g4 k (Nat.lt_of_lt_of_le hk x3)
      refine ⟨y1, y2, keep q k hq (Nat.lt_of_lt_of_le hk x3) (fun hq' => ?_)⟩
      rw [x1, if_pos hq'] at hk
      exact hk
  · by_cases hf : fr7 ρ r dd N p
    · left
      refine ⟨(hOw p).1 hf, ?_⟩
      unfold f50
      rw [if_pos hf]
    · rw [(hOw p).2 hf]
      have e50 : f50 ρ r dd N p = ρ 50 p := by unfold f50; rw [if_neg hf]
      rw [e50]
      refine (h7 p hp).imp id (fun ⟨a, q, k, b, c, d, e⟩ => ⟨a, q, k, b, ?_, d, e⟩)
      rw [(e51 q b).1]
      by_cases x : r ≤ q
      · rw [if_pos x]
        refine Classical.byContradiction (fun y => hf ⟨q, k, x, ?_, ?_, c, e⟩)
        · have b' : q < rN ρ := b
          omega
        · unfold s7 at y; dsimp only; omega
      · rw [if_neg x]; exact c
  · have hL := (kA o).mp ho
    obtain ⟨a1, a2, k, a3, a4⟩ := p1 o hL
    have hgR := (hH.2.1 o (hA o hL)).1
    rw [t44 o hL]
    have gG : (ρ 43 o).toNatClampNeg = oG ρ o := rfl
    have mM : (ρ 42 o).toNatClampNeg = oM ρ o := rfl
    rw [gG, mM]
    obtain ⟨x1, x2, x3⟩ := e51 (oG ρ o) hgR
    by_cases hg : oG ρ o < r
    · have eP := p3 o hL hg
      obtain ⟨l1, l2, l3⟩ := h8.1 o (hA o hL)
      rw [if_neg (by omega)] at x1
      refine ⟨?_, a1, ?_⟩
      · rw [a4]; exact keep _ k hgR a3 (fun y => by omega)
      · rw [eP, x1]
        have e53 : f53 ρ r dd N (oG ρ o) = ρ 53 (oG ρ o) := by unfold f53; rw [if_neg (by omega)]
        rw [e53]
        exact l3
    · obtain ⟨y, y1, y2, y3, y4⟩ := p4 o hL (by omega)
      have h5' := p5 (oG ρ o) (by omega) hgR
      rw [if_pos (by omega)] at x1
      obtain ⟨z1, z2⟩ := rpos_mod (rr ρ (oG ρ o)) y
      have hyl : y / 16 < (s7 ρ r dd N (oG ρ o)).1 := by omega
      refine ⟨?_, a1, ?_⟩
      · rw [y1, z2]; exact keep _ _ hgR (by omega) (fun _ => hyl)
      · rw [y1, z1, z2, x1]
        intro e
        have e' : rr ρ (oG ρ o) ((s7 ρ r dd N (oG ρ o)).1 - 1) = rr ρ (oG ρ o) (y / 16) := by
          unfold rr at e ⊢
          rw [show 40 * oG ρ o + ((s7 ρ r dd N (oG ρ o)).1 - 1) = 40 * oG ρ o + (s7 ρ r dd N (oG ρ o)).1 - 1 by omega]
          exact e
        have := (rdis _ _ _ _ hgR hgR (by omega) (by omega) e').2
        have e53 : f53 ρ r dd N (oG ρ o) = nI (s7 ρ r dd N (oG ρ o)).2.1 := by
          unfold f53 atI
          rw [if_pos ⟨by omega, hgR⟩, if_neg (by omega)]
        rw [e53, cl (by omega)]
        omega
  · have hLo := (kA o).mp ho
    have hLq := (kA q).mp hq
    show (f44 ρ r dd N o).toNatClampNeg + oM ρ o < (f44 ρ r dd N q).toNatClampNeg ∨ (f44 ρ r dd N q).toNatClampNeg + oM ρ q < (f44 ρ r dd N o).toNatClampNeg
    rw [t44 o hLo, t44 q hLq]
    exact p2 o q hLo hLq hne
