theorem PC_scr {σ τ : xS} {B : Nat → Prop} {pl : Nat → Nat} {st : (Nat → Nat) × Nat} (h : PC σ τ pl st) (c6 : st.2 ≤ 640) (hB : ∀ k, k < st.2 → B (st.1 k)) (hp : ∀ o, B o → pl o < 640) : cScr (τ 3 3) (τ 12) (τ 13) := by
  obtain ⟨C1, C2, C3, _⟩ := h
  unfold cScr
  rw [C1, cl (by omega)]
  refine ⟨rfl, c6, fun k hk => ?_, fun p hp' => ?_⟩
  · have := hp _ (hB k hk)
    rw [C2 k hk, cl (by omega)]; exact ⟨rfl, this⟩
  · rcases C3 p hp' with ⟨_, k, k1, k2⟩ | ⟨e, _⟩
    · right
      have := hp _ (hB k k1)
      exact ⟨k, k1, by rw [C2 k k1, cl (by omega)]; exact k2⟩
    · exact Or.inl e
theorem np_of {B : Nat → Prop} {pl pt qs : Nat → Nat} {c : Nat} {np : Nat → Int32} (h : npF (fun k => pl (pt k)) qs c np) (hB : ∀ k, k < c → B (pt k)) (hd : ∀ i j, i < j → j < c → pt i ≠ pt j) (hinj : ∀ o q, B o → B q → pl o = pl q → o = q) (hp : ∀ o, B o → pl o < 640) {u : Nat} (hu : B u) : np (pl u) = nI (lfP pt qs pl c u) := by
  rcases h (pl u) (hp u hu) with ⟨j, j1, j2, j3⟩ | ⟨y1, y2⟩
  · have := hinj _ _ (hB j j1) hu j2
    rw [j3, ← this, lfP_y c hd j1]
  · rw [y2, lfP_n c (fun j hj e => y1 j hj (by dsimp only; rw [e]))]
theorem lift_end {t : Nat} {σ T σc ρc : xS} {s s' np : Nat → Int32} {r c : Nat} {pt qs : Nat → Nat} (ht : t < 100000) (hI : Inv2 t σ σ) (hr : r < rN σ) (hLF : LF (oB σ) (oP σ) (oM σ) pt qs c) (hTR : TR σc ρc) (hgr : ∀ k, k < c → r < oG σ (pt k))
    (hcl : ∀ k, k < c → ∀ i, i < oM σ (pt k) → oS σ (pt k) i = 2 → r < oG σ (oV σ (pt k) i) → ∃ m, m < c ∧ pt m = oV σ (pt k) i)
    (i1 : ∀ o, oB σ o → itm σc ρc (oG σ o) (oP σ o) (oM σ o)) (i2 : ∀ k, k < c → itm σc ρc r (qs k) (oM σ (pt k))) (hH : HeapR s s' (oB σ) (lfP pt qs (oP σ) c) (oM σ) (oH σ) (oS σ) (oC σ)) (hnp : ∀ u, oB σ u → np (oP σ u) = nI (lfP pt qs (oP σ) c u))
    (T28 : T 28 = s) (T29 : T 29 = flw s np s' 640) (T17 : T 17 = σ 17) (T18 : T 18 = flw (σ 17) np (σ 18) 16) (T24 : T 24 = flq np (σ 24) (oN σ)) (T25 : T 25 = flq np (σ 25) ((σ 9 1).toNatClampNeg)) (T8 : T 8 = σ 8) (T9 : T 9 = σ 9) (Tc : ∀ d, d = 20 ∨ d = 22 ∨ d = 23 ∨ d = 7 ∨ (32 ≤ d ∧ d < 40) → T d = σc d) (T2 : T 2 = σ 2) (T04 : T 0 4 = σ 0 4 + nI c) (T05 : T 0 5 = σ 0 5) (Ts : cScr (T 3 3) (T 12) (T 13))
    (Te : ∀ d, d = 40 ∨ d = 41 ∨ d = 42 ∨ d = 45 ∨ d = 46 ∨ d = 47 ∨ d = 54 ∨ d = 55 ∨ d = 56 → T d = σ d) (T44 : ∀ o, oB σ o → T 44 o = nI (lfP pt qs (oP σ) c o)) (T49 : ∀ p, p < 640 → T 49 p = -1 ∨ ∃ o, oB σ o ∧ T 49 p = nI o ∧ lfP pt qs (oP σ) c o = p) (T49' : ∀ o, oB σ o → T 49 (lfP pt qs (oP σ) c o) = nI o) (T43 : ∀ o, oB σ o → T 43 o = nI (lfP pt (fun _ => r) (oG σ) c o)) (T4 : R4 ρc T) (c31 : ρc 31 = σ 31) (T31 : ∀ k, 10 ≤ k → k ≤ 25 → k ≠ 24 → T 31 k = σ 31 k) (T3124 : T 31 24 = σ 31 24 + nI c) : Inv t T := by
  have hG := Inv2_Gd ht hI
  obtain ⟨⟨h1, h2, h3, h4, h5, h6, h7, h8, h9⟩, c1, c2, c3, c4, c5, c6, c7⟩ := id hI
  have hR8 : rN σ ≤ 8 := h6.2.1
  obtain ⟨t50, t51, t52, t53⟩ := T4
  obtain ⟨h6', h7', c3'⟩ := hTR
  rw [c31] at h6' h7' c3'
  have e40 := Te 40 (by decide)
  have e41 := Te 41 (by decide)
  have e42 := Te 42 (by decide)
  have e45 := Te 45 (by decide)
  have e46 := Te 46 (by decide)
  have e47 := Te 47 (by decide)
  have e54 := Te 54 (by decide)
  have e55 := Te 55 (by decide)
  have e56 := Te 56 (by decide)
  have e20 := Tc 20 (by decide)
  have e22 := Tc 22 (by decide)
  have e23 := Tc 23 (by decide)
  have e7 := Tc 7 (by decide)
  have er : rowsF T = rowsF σc := by
    funext q k
    unfold rowsF
    by_cases x : q < 8
    · rw [if_pos x, if_pos x, Tc (32 + q) (by omega)]
    · rw [if_neg x, if_neg x]
  have hd : ∀ i j, i < j → j < c → pt i ≠ pt j := hLF.2.1
  have gP : ∀ o, oB σ o → lfP pt (fun _ => r) (oG σ) c o ≤ oG σ o ∧ lfP pt (fun _ => r) (oG σ) c o < rN σ ∧ ((∃ j, j < c ∧ pt j = o) → lfP pt (fun _ => r) (oG σ) c o = r) ∧ ((∀ j, j < c → pt j ≠ o) → lfP pt (fun _ => r) (oG σ) c o = oG σ o) := fun o ho => by
    have hg : oG σ o < rN σ := (h1 o ho).2.2.2.2.1.2
    rcases pt_cases pt c o with ⟨j, j1, j2⟩ | no
    · have e := lfP_y (qs := fun _ => r) (pl := oG σ) c hd j1
      rw [j2] at e
      have := hgr j j1
      rw [j2] at this
      exact ⟨by omega, by omega, fun _ => e, fun x => absurd j2 (x j j1)⟩
    · have e := lfP_n (qs := fun _ => r) (pl := oG σ) c no
      exact ⟨by omega, by omega, fun ⟨j, j1, j2⟩ => absurd j2 (no j j1), fun _ => e⟩
  have pP : ∀ o, oB σ o → lfP pt qs (oP σ) c o + oM σ o < 640 ∧ itm σc ρc (lfP pt (fun _ => r) (oG σ) c o) (lfP pt qs (oP σ) c o) (oM σ o) := fun o ho => by
    rcases pt_cases pt c o with ⟨j, j1, j2⟩ | no
    · rw [(gP o ho).2.2.1 ⟨j, j1, j2⟩, ← j2, lfP_y c hd j1]
      exact ⟨(hLF.1 j j1).2, i2 j j1⟩
    · rw [(gP o ho).2.2.2 no, lfP_n c no]
      exact ⟨(hG.1 o ho).2.2.1.2, i1 o ho⟩
  have tP : ∀ o, oB σ o → (T 44 o).toNatClampNeg = lfP pt qs (oP σ) c o := fun o ho => by rw [T44 o ho, cl (by have := (pP o ho).1; omega)]
  have tG : ∀ o, oB σ o → (T 43 o).toNatClampNeg = lfP pt (fun _ => r) (oG σ) c o := fun o ho => by rw [T43 o ho, cl (by have := (gP o ho).2.1; omega)]
  have vk : ∀ q s v, vOk (σ 40) (σ 43) 8 s v → (∀ u, oB σ u → s = 2 → v = nI u → lfP pt (fun _ => r) (oG σ) c u ≤ q) → vOk (σ 40) (T 43) q s v := fun q s v h hu => by
    rcases h with h | h | ⟨h, u, x, y, z⟩
    · exact Or.inl h
    · exact Or.inr (Or.inl h)
    · exact Or.inr (Or.inr ⟨h, u, x, y, by rw [tG u x]; exact hu u x h y⟩)
  have live : ∀ o i, oB σ o → i < oM σ o → oS σ o i = 2 → oB σ (oV σ o i) ∧ oC σ o i = nI (oP σ (oV σ o i)) ∧ σ 47 (15 * o + i) = nI (oV σ o i) := fun o i ho hi e2 => by
    obtain ⟨b1, b2, b3⟩ := (hG.2.1 o i ho hi).2 e2
    refine ⟨b2, ?_, b1⟩
    have e' : σ 46 (15 * o + i) = 2 := e2
    show tr (σ 44) (σ 46 (15 * o + i)) (σ 47 (15 * o + i)) = _
    rw [e', tr_2]
    exact (hG.1 _ b2).2.2.1.1
  have p6 : ∀ o, oB σ o → oP σ o < 640 := fun o ho => (h1 o ho).2.2.2.2.2.1.2
  refine Inv2_s.mp ?_
  unfold Inv2
  rw [er, e20, e22, e23, e7, e40, e41, e42, e45, e46, e47, e54, e55, e56, t50, t51, t52, t53, T28, T29, T17, T18, T24, T25, T8, T9, T2, T04, T05, T31 10 (by decide) (by decide) (by decide), T31 13 (by decide) (by decide) (by decide), T31 19 (by decide) (by decide) (by decide), T31 21 (by decide) (by decide) (by decide), T31 22 (by decide) (by decide) (by decide), T31 23 (by decide) (by decide) (by decide), T31 25 (by decide) (by decide) (by decide), T3124]
  refine ⟨⟨fun o ho => ?_, fun p hp => ?_, fun o i ho hi => ?_, fun k hk => vk _ _ _ (h4 k hk) (fun u hu _ _ => by have := (gP u hu).2.1; omega), h5, h6', h7', ⟨fun o ho => ?_, fun o q ho hq hne => ?_⟩, h9⟩, ?_, fun k hk => ?_, c3', ⟨c4.1, fun k hk => ?_⟩, ?_, ?_, Ts⟩
  · obtain ⟨b1, b2, b3, b4, b5, b6, b7, b8⟩ := h1 o ho
    rw [tP o ho, tG o ho]
    exact ⟨b1, b2, b3, b4, ⟨T43 o ho, (gP o ho).2.1⟩, ⟨T44 o ho, by have := (pP o ho).1; omega⟩, b7, T49' o ho⟩
  · rcases T49 p hp with x | ⟨o, o1, o2, o3⟩
    · exact Or.inl x
    · exact Or.inr ⟨o, o1, o2, by rw [tP o o1]; exact o3⟩
  · rw [tG o ho]
    refine vk _ _ _ (vOk_mono (h3 o i ho hi) (by have := (h1 o ho).2.2.2.2.1.2; unfold rN at hR8; omega)) (fun u hu e2 ev => ?_)
    have hi' : i < oM σ o := hi
    obtain ⟨l1, l2, l3⟩ := live o i ho hi' e2
    have eu : oV σ o i = u := by
      rw [ev] at l3
      exact ((nI_eq (by have := hu.1; omega) (by have := l1.1; omega)).mp l3).symm
    have hle : oG σ u ≤ oG σ o := by
      have := ((hG.2.1 o i ho hi').2 e2).2.2
      rw [eu] at this
      exact this
    rcases pt_cases pt c o with ⟨k, k1, k2⟩ | no
    · rw [(gP o ho).2.2.1 ⟨k, k1, k2⟩]
      by_cases x : r < oG σ u
      · have := hcl k k1 i (by rw [k2]; exact hi') (by rw [k2]; exact e2) (by rw [k2, eu]; exact x)
        rw [k2, eu] at this
        rw [(gP u hu).2.2.1 this]; exact Nat.le_refl _
      · have := (gP u hu).1
        omega
    · rw [(gP o ho).2.2.2 no]
      have := (gP u hu).1
      omega
  · rw [tP o ho, tG o ho]
    exact (pP o ho).2
  · show (T 44 o).toNatClampNeg + oM σ o < (T 44 q).toNatClampNeg ∨ (T 44 q).toNatClampNeg + oM σ q < (T 44 o).toNatClampNeg
    rw [tP o ho, tP q hq]
    exact LF_dis hLF (Nat.le_refl _) o q ho hq hne
  · have H := HeapR_fl (np := np) (fc' := fun o i => tr (T 44) (σ 46 (15 * o + i)) (σ 47 (15 * o + i))) hH (fun o ho => (pP o ho).1) (fun o i ho hi => ⟨fun e => ?_, fun e => ?_⟩)
    · exact HeapR_P H (fun o ho => ⟨tP o ho, rfl, rfl, fun i _ => ⟨rfl, rfl⟩⟩)
    · obtain ⟨a, b, d⟩ := live o i ho hi e
      have e' : σ 46 (15 * o + i) = 2 := e
      rw [b, cl (by have := p6 _ a; omega), hnp _ a, e', tr_2, d, cl (by have := a.1; omega)]
      exact T44 _ a
    · have e' : ¬ σ 46 (15 * o + i) = 2 := e
      show _ = tr (σ 44) (σ 46 (15 * o + i)) (σ 47 (15 * o + i))
      rw [tr_n e', tr_n e']
  · refine ⟨(c2 k hk).1, ?_⟩
    by_cases e : σ 54 k = 2
    · obtain ⟨a, b⟩ := hG.2.2.1 k hk e
      have e18 : σ 18 k = nI (oP σ (oR σ k)) := by rw [(c2 k hk).2, e, tr_2]; exact (hG.1 _ b).2.2.1.1
      rw [flw_y hk (by rw [(c2 k hk).1]; exact e), e18, cl (by have := p6 _ b; omega), hnp _ b, e, tr_2, a, cl (by have := b.1; omega)]
      exact (T44 _ b).symm
    · rw [flw_n (by rw [(c2 k hk).1]; exact e), tr_n e, (c2 k hk).2, tr_n e]
  · have b := (h5.2.2.1 k hk).1
    have hk' : k < oN σ := hk
    rw [flq_y hk', c4.2 k hk, (h1 _ b).2.2.2.2.2.1.1, cl (by have := p6 _ b; unfold oP at this; omega), T44 _ b]
    exact hnp _ b
  · obtain ⟨w1, w2, w, w3, w4, w5⟩ := c5
    refine ⟨w1, w2, w, fun k hk => ?_, w4, w5⟩
    obtain ⟨b, y2, y3⟩ := w3 k hk
    refine ⟨b, y2, ?_⟩
    rw [flq_y hk, y3, (h1 _ b).2.2.2.2.2.1.1, cl (by have := p6 _ b; unfold oP at this; omega), T44 _ b]
    exact hnp _ b
  · obtain ⟨b1, b2, b3, b4, b5⟩ := c6
    exact ⟨b1, b2, b3, by rw [b4], b5⟩
