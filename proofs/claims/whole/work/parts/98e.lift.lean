noncomputable def stP (σ : xS) (r j : Nat) : (Nat → Nat) × Nat := adK (oG σ) (oM σ) r (oS σ) (oV σ) (adP (oG σ) r (σ 54 j) (oR σ j) (fun _ => 0, 0)) 640
theorem stP_G {t : Nat} {σ : xS} (ht : t < 100000) (hI : Inv2 t σ σ) {r j : Nat} (hj : j < 16) : PG (oB σ) (oG σ) r (stP σ r j) ∧ (∀ k, k < (stP σ r j).2 → ∀ i, i < oM σ ((stP σ r j).1 k) → oS σ ((stP σ r j).1 k) i = 2 → r < oG σ (oV σ ((stP σ r j).1 k) i) → ∃ m, m < (stP σ r j).2 ∧ (stP σ r j).1 m = oV σ ((stP σ r j).1 k) i) ∧ (stP σ r j).2 ≤ 640 ∧ (σ 54 j = 2 → r < oG σ (oR σ j) → 0 < (stP σ r j).2 ∧ (stP σ r j).1 0 = oR σ j) ∧ (¬ (σ 54 j = 2 ∧ r < oG σ (oR σ j)) → (stP σ r j).2 = 0) := by
  have hG := Inv2_Gd ht hI
  have hf : ∀ o i, oB σ o → i < oM σ o → oS σ o i = 2 → oB σ (oV σ o i) := fun o i ho hi e => ((hG.2.1 o i ho hi).2 e).2.1
  have G0 : PG (oB σ) (oG σ) r ((fun _ => 0, 0) : (Nat → Nat) × Nat) := ⟨fun k hk => by dsimp only at hk; omega, fun i k _ hk => by dsimp only at hk; omega⟩
  have G1 : PG (oB σ) (oG σ) r (adP (oG σ) r (σ 54 j) (oR σ j) (fun _ => 0, 0)) := adP_G G0 (fun e => (hG.2.2.1 j hj e).2)
  obtain ⟨K1, K2⟩ := adK_G G1 hf 640
  have hle := PG_le K1 (fun o ho => ho.1)
  have hX : ∀ k, PX (adP (oG σ) r (σ 54 j) (oR σ j) (fun _ => 0, 0)) (adK (oG σ) (oM σ) r (oS σ) (oV σ) (adP (oG σ) r (σ 54 j) (oR σ j) (fun _ => 0, 0)) k) := by
    intro k
    induction k with
    | zero => exact PX_r _
    | succ k ih =>
      by_cases x : k < (adK (oG σ) (oM σ) r (oS σ) (oV σ) (adP (oG σ) r (σ 54 j) (oR σ j) (fun _ => 0, 0)) k).2
      · rw [adK_y x]; exact PX_t ih (adF_X _ _ _ _ _ _ _)
      · rw [adK_n x]; exact ih
  unfold stP
  refine ⟨K1, fun k hk => K2 k (Nat.lt_of_lt_of_le hk hle) hk, hle, fun e hg => ?_, fun hn => ?_⟩
  · have hy : σ 54 j = 2 ∧ r < oG σ (oR σ j) ∧ ∀ k, k < ((fun _ => 0, 0) : (Nat → Nat) × Nat).2 → ((fun _ => 0, 0) : (Nat → Nat) × Nat).1 k ≠ oR σ j := ⟨e, hg, fun k hk => by dsimp only at hk; omega⟩
    have h6 := hX 640
    rw [adP_y hy] at h6
    obtain ⟨x1, x2⟩ := h6
    dsimp only at x1 x2
    have x3 := x2 0 (by omega)
    rw [vu_s] at x3
    rw [adP_y hy]
    dsimp only
    exact ⟨by omega, x3⟩
  · have hy : ¬ (σ 54 j = 2 ∧ r < oG σ (oR σ j) ∧ ∀ k, k < ((fun _ => 0, 0) : (Nat → Nat) × Nat).2 → ((fun _ => 0, 0) : (Nat → Nat) × Nat).1 k ≠ oR σ j) := fun x => hn ⟨x.1, x.2.1⟩
    rw [adP_n hy]
    have : ∀ k, adK (oG σ) (oM σ) r (oS σ) (oV σ) ((fun _ => 0, 0) : (Nat → Nat) × Nat) k = (fun _ => 0, 0) := by
      intro k
      induction k with
      | zero => rfl
      | succ k ih =>
        rw [adK_n (by rw [ih]; dsimp only; omega)]; exact ih
    rw [this]
theorem lc_find {t : Nat} {σ : xS} (ht : t < 100000) (hI : Inv2 t σ σ) {r j : Nat} (hr : r < 8) (hj : j < 16) (Q : xS → Prop) (h : ∀ τ, PC σ τ (oP σ) (stP σ r j) → Q τ) : p_Par_find (nI j) (nI r) σ Q := by
  have hG := Inv2_Gd ht hI
  obtain ⟨⟨h1, h2, h3, h4, h5, h6, h7, h8, h9⟩, c1, c2, c3, c4, c5, c6, c7⟩ := id hI
  have hV : Vw (σ 28) (σ 29) (oB σ) (oP σ) (oM σ) (oK σ) (oH σ) (oS σ) (oC σ) (oV σ) := Gd_Vw hG c1
  have e17 := (c2 j hj).1
  refine e_findC hV (g := oG σ) (n := (σ 3 3).toNatClampNeg) (q := fun k => (σ 12 k).toNatClampNeg) (rt := oR σ j) hr hj (fun o ho => ⟨ho.1, (hG.1 o ho).2.1.2, (h8.1 o ho).1⟩) c7.1 c7.2.1 (fun k hk => c7.2.2.1 k hk) (fun p hp => c7.2.2.2 p hp) (fun e => ?_) Q (fun τ hC => h τ ?_)
  · rw [e17] at e
    have b := (hG.2.2.1 j hj e).2
    refine ⟨b, ?_⟩
    rw [(c2 j hj).2, e, tr_2]
    exact (hG.1 _ b).2.2.1.1
  · rw [e17] at hC; exact hC
theorem lm_find {t : Nat} {σ τ0 : xS} (ht : t < 100000) (hI : Inv2 t σ σ) (hE : RE σ τ0) {r j : Nat} (hr : r < 8) (hj : j < 16) (Q : xS → Prop) (h : ∀ τ, PM τ0 τ (stP σ r j) → Q τ) : p_Mod_findParts (nI j) (nI r) τ0 Q := by
  have hG := Inv2_Gd ht hI
  obtain ⟨a, b⟩ := id hE
  have e42 := a 42 (by decide) (by decide) (by decide)
  have e43 := a 43 (by decide) (by decide) (by decide)
  have e46 := a 46 (by decide) (by decide) (by decide)
  have e47 := a 47 (by decide) (by decide) (by decide)
  have e54 := a 54 (by decide) (by decide) (by decide)
  have e55 := a 55 (by decide) (by decide) (by decide)
  refine e_findM (B := oB σ) (g := oG σ) (mn := oM σ) (fs := oS σ) (fv := oV σ) (rt := oR σ j) hr hj (fun o ho => ⟨ho.1, (hG.1 o ho).2.1.2, by rw [e43]; exact (hG.1 o ho).2.1.1⟩) (fun o ho => ?_) (fun e => ?_) Q (fun τ hC => h τ ?_)
  · rw [e42, e46, e47]
    exact ⟨(hG.1 o ho).1.2.2.1, (hG.1 o ho).1.2.2.2.1, fun i hi => ⟨rfl, fun e => ⟨((hG.2.1 o i ho hi).2 e).2.1, ((hG.2.1 o i ho hi).2 e).1⟩⟩⟩
  · rw [e54] at e
    rw [e55]
    exact ⟨(hG.2.2.1 j hj e).2, (hG.2.2.1 j hj e).1⟩
  · rw [e54] at hC; exact hC
theorem LF_of {t : Nat} {σ : xS} (ht : t < 100000) (hI : Inv2 t σ σ) {r c : Nat} (hr : r < rN σ) {pt : Nat → Nat} {σs ρs : Nat → xS} {qs : Nat → Nat} {σ0 : xS} (hT : TR σ0 σ) (e20 : σ0 20 = σ 20) (e1 : σs 0 = σ0) (e2 : ρs 0 = σ) (hC : Ch r (fun k => oM σ (pt k) + 1) σs ρs qs c) (hB : ∀ k, k < c → oB σ (pt k)) (hd : ∀ i j, i < j → j < c → pt i ≠ pt j) : LF (oB σ) (oP σ) (oM σ) pt qs c ∧ (∀ k, k ≤ c → TR (σs k) (ρs k) ∧ rN (ρs k) = rN σ) ∧ (∀ o, oB σ o → itm (σs c) (ρs c) (oG σ o) (oP σ o) (oM σ o)) ∧ (∀ k, k < c → itm (σs c) (ρs c) r (qs k) (oM σ (pt k))) := by
  have hG := Inv2_Gd ht hI
  obtain ⟨⟨h1, h2, h3, h4, h5, h6, h7, h8, h9⟩, c1, c2, c3, c4, c5, c6, c7⟩ := id hI
  have hok := Ch_ok hT hr e1 e2 hC (fun k hk => ⟨by omega, by have := (hG.1 _ (hB k hk)).1.2.2.2.1; omega⟩)
  obtain ⟨k1, k2, k3, k4, k5⟩ := hok c (Nat.le_refl _)
  have hit : ∀ o, oB σ o → itm σ0 σ (oG σ o) (oP σ o) (oM σ o) := fun o ho => by
    have := h8.1 o ho
    unfold itm
    rw [e20]; exact this
  have hg : ∀ o, oB σ o → oG σ o < rN σ := fun o ho => (h1 o ho).2.2.2.2.1.2
  have hp : ∀ o, oB σ o → oP σ o < 640 := fun o ho => (h1 o ho).2.2.2.2.2.1.2
  refine ⟨⟨fun k hk => ⟨hB k hk, by have := (k4 k hk).1; omega⟩, hd, fun o k ho hk => ?_, fun i j hij hj => ?_, h8.2⟩, fun k hk => ⟨(hok k hk).1, (hok k hk).2.1⟩, fun o ho => (k3 _ _ _ (hg o ho) (hp o ho) (hit o ho)).1, fun k hk => ?_⟩
  · have := (k3 _ _ _ (hg o ho) (hp o ho) (hit o ho)).2 k hk
    omega
  · have := k5 i j hij hj
    omega
  · have := (k4 k hk).2
    rw [show oM σ (pt k) + 1 - 1 = oM σ (pt k) by omega] at this
    exact this
