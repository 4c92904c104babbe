def Vw (s c : Nat → Int32) (A : Nat → Prop) (pl mn kd : Nat → Nat) (hd : Nat → Int32) (fs fc : Nat → Nat → Int32) (fv : Nat → Nat → Nat) : Prop :=
  HeapR s c A pl mn hd fs fc ∧ lDis A pl mn ∧ (∀ o, A o → pl o + mn o < 640 ∧ mn o < 16 ∧ kd o < 3 ∧ hd o &&& 15 = nI (mn o) ∧ hd o >>> (14 &&& 31) = nI (kd o) ∧ (kd o = 2 → 0 < mn o)) ∧ (∀ o i, A o → i < mn o → fs o i ≠ 3 ∧ (fs o i = 2 → A (fv o i) ∧ fc o i = nI (pl (fv o i))))
def hol (kd : Nat → Nat) (fs : Nat → Nat → Int32) (fv : Nat → Nat → Nat) (X : Nat → Prop) (q i : Nat) : Prop := kd q = 0 ∨ kd q = 2 ∧ 0 < i ∧ (fs q 0 = 2 → X (fv q 0))
def clo (A : Nat → Prop) (kd mn : Nat → Nat) (fs : Nat → Nat → Int32) (fv : Nat → Nat → Nat) (X : Nat → Prop) : Prop := ∀ q i, A q → X q → i < mn q → fs q i = 2 → hol kd fs fv X q i → X (fv q i)
def Lv (A Sd : Nat → Prop) (kd mn : Nat → Nat) (fs : Nat → Nat → Int32) (fv : Nat → Nat → Nat) (o : Nat) : Prop := ∀ X : Nat → Prop, (∀ q, Sd q → X q) → clo A kd mn fs fv X → X o
theorem Lv_sd {A Sd : Nat → Prop} {kd mn : Nat → Nat} {fs : Nat → Nat → Int32} {fv : Nat → Nat → Nat} {o : Nat} (h : Sd o) : Lv A Sd kd mn fs fv o := fun _ hs _ => hs o h
theorem Lv_clo {A Sd : Nat → Prop} {kd mn : Nat → Nat} {fs : Nat → Nat → Int32} {fv : Nat → Nat → Nat} : clo A kd mn fs fv (Lv A Sd kd mn fs fv) := by
  intro q i hq hl hi h2 hh X hs hc
  refine hc q i hq (hl X hs hc) hi h2 ?_
  rcases hh with h | ⟨h, h', h''⟩
  · exact Or.inl h
  · exact Or.inr ⟨h, h', fun e => h'' e X hs hc⟩
theorem Lv_A {A Sd : Nat → Prop} {kd mn : Nat → Nat} {fs : Nat → Nat → Int32} {fv : Nat → Nat → Nat} (hs : ∀ q, Sd q → A q) (hf : ∀ q i, A q → i < mn q → fs q i = 2 → A (fv q i)) {o : Nat} (h : Lv A Sd kd mn fs fv o) : A o :=
  h A hs (fun q i hq _ hi h2 _ => hf q i hq hi h2)
theorem Lv_mono {A Sd Sd' : Nat → Prop} {kd mn : Nat → Nat} {fs fs' : Nat → Nat → Int32} {fv : Nat → Nat → Nat} (hs : ∀ q, Sd q → Sd' q) (hf : ∀ q i, A q → kd q ≠ 1 → fs' q i = fs q i) {o : Nat} (h : Lv A Sd kd mn fs fv o) : Lv A Sd' kd mn fs' fv o := by
  intro X hX hc
  refine h X (fun q hq => hX q (hs q hq)) (fun q i hq hx hi h2 hh => ?_)
  have hk : kd q ≠ 1 := by rcases hh with e | e <;> omega
  refine hc q i hq hx hi (by rw [hf q i hq hk]; exact h2) ?_
  rcases hh with e | ⟨e, e', e''⟩
  · exact Or.inl e
  · exact Or.inr ⟨e, e', fun x => e'' (by rw [← hf q 0 hq hk]; exact x)⟩
def mks (σ : xS) (l pe : Nat → Int32) (n : Nat) : xS := xu (va_up (va_up σ 26 l) 27 pe) 11 3 (nI n)
theorem mks_26 (σ : xS) (l pe : Nat → Int32) (n : Nat) : mks σ l pe n 26 = l := by unfold mks; simp (disch := omega) only [forall_eq, true_and, and_true, and_self, not_true_eq_false, not_false_eq_true, false_imp_iff, true_imp_iff, imp_self, implies_true, ne_eq, reduceIte, cl, cl0, cl1, cl2, vpn, vp0, le8, le16, le40, le640, le1400, le6400, lt8, lt16, le15, le2, nI_leI, nI_ltI, nI_eq, nI_1, nI_add, n_le0, n_lt0, n_0le, n_eq0, n_eq1, n_eq2, n_m1, n_m1r, Nat.reduceEqDiff, Nat.reduceAdd, Int32.add_zero, nI_pred, div16, mul15, mul40, mul16, mul640, mulr16, xu_s, xu_c, xu_k, xu_cc, rows_xu, xf_s, xf_c, rows_xf, xul_c, rows_xul, xul_L, lgc]
theorem mks_27 (σ : xS) (l pe : Nat → Int32) (n : Nat) : mks σ l pe n 27 = pe := by unfold mks; simp (disch := omega) only [forall_eq, true_and, and_true, and_self, not_true_eq_false, not_false_eq_true, false_imp_iff, true_imp_iff, imp_self, implies_true, ne_eq, reduceIte, cl, cl0, cl1, cl2, vpn, vp0, le8, le16, le40, le640, le1400, le6400, lt8, lt16, le15, le2, nI_leI, nI_ltI, nI_eq, nI_1, nI_add, n_le0, n_lt0, n_0le, n_eq0, n_eq1, n_eq2, n_m1, n_m1r, Nat.reduceEqDiff, Nat.reduceAdd, Int32.add_zero, nI_pred, div16, mul15, mul40, mul16, mul640, mulr16, xu_s, xu_c, xu_k, xu_cc, rows_xu, xf_s, xf_c, rows_xf, xul_c, rows_xul, xul_L, lgc]
theorem mks_11 (σ : xS) (l pe : Nat → Int32) (n : Nat) : mks σ l pe n 11 3 = nI n := by unfold mks; simp (disch := omega) only [forall_eq, true_and, and_true, and_self, not_true_eq_false, not_false_eq_true, false_imp_iff, true_imp_iff, imp_self, implies_true, ne_eq, reduceIte, cl, cl0, cl1, cl2, vpn, vp0, le8, le16, le40, le640, le1400, le6400, lt8, lt16, le15, le2, nI_leI, nI_ltI, nI_eq, nI_1, nI_add, n_le0, n_lt0, n_0le, n_eq0, n_eq1, n_eq2, n_m1, n_m1r, Nat.reduceEqDiff, Nat.reduceAdd, Int32.add_zero, nI_pred, div16, mul15, mul40, mul16, mul640, mulr16, xu_s, xu_c, xu_k, xu_cc, rows_xu, xf_s, xf_c, rows_xf, xul_c, rows_xul, xul_L, lgc]
theorem mks_d (σ : xS) (l pe : Nat → Int32) (n : Nat) {d : Nat} (h : d ≠ 26 ∧ d ≠ 27 ∧ d ≠ 11) : mks σ l pe n d = σ d := by
  unfold mks
  rw [xu_c _ _ _ _ h.2.2, xf_c _ _ _ h.2.1, xf_c _ _ _ h.1]
theorem mks_w26 (σ : xS) (l pe : Nat → Int32) (n k : Nat) (v : Int32) : xu (mks σ l pe n) 26 k v = mks σ (upd l k v) pe n := by
  funext d j
  by_cases e : d = 26
  · subst e; rw [xu_cc, mks_26, mks_26]
  · rw [xu_c _ _ _ _ e]
    by_cases e' : d = 27
    · subst e'; rw [mks_27, mks_27]
    · by_cases e'' : d = 11
      · subst e''; unfold mks; rw [xu_cc, xu_cc]; congr 1
      · rw [mks_d _ _ _ _ ⟨e, e', e''⟩, mks_d _ _ _ _ ⟨e, e', e''⟩]
theorem mks_w27 (σ : xS) (l pe : Nat → Int32) (n k : Nat) (v : Int32) : xu (mks σ l pe n) 27 k v = mks σ l (upd pe k v) n := by
  funext d j
  by_cases e : d = 27
  · subst e; rw [xu_cc, mks_27, mks_27]
  · rw [xu_c _ _ _ _ e]
    by_cases e' : d = 26
    · subst e'; rw [mks_26, mks_26]
    · by_cases e'' : d = 11
      · subst e''; unfold mks; rw [xu_cc, xu_cc]; congr 1
      · rw [mks_d _ _ _ _ ⟨e', e, e''⟩, mks_d _ _ _ _ ⟨e', e, e''⟩]
theorem upd_upd (f : Nat → Int32) (k : Nat) (v w : Int32) : upd (upd f k v) k w = upd f k w := by
  funext j
  by_cases e : j = k
  · rw [e, upd_s, upd_s]
  · rw [upd_n _ _ e, upd_n _ _ e, upd_n _ _ e]
theorem mks_w11 (σ : xS) (l pe : Nat → Int32) (n m : Nat) : xu (mks σ l pe n) 11 3 (nI m) = mks σ l pe m := by
  funext d j
  by_cases e : d = 11
  · subst e; unfold mks; rw [xu_cc, xu_cc, xu_cc, upd_upd]
  · rw [xu_c _ _ _ _ e]; unfold mks; rw [xu_c _ _ _ _ e, xu_c _ _ _ _ e]
theorem nar1 : vp_nar .boolean 1 = 1 := by decide
theorem nar0 : vp_nar .boolean 0 = 0 := by decide
def MJ (A ex : Nat → Prop) (pl mn kd : Nat → Nat) (fs : Nat → Nat → Int32) (fv : Nat → Nat → Nat) (LL : Nat → Prop) (l pe : Nat → Int32) (n : Nat) : Prop :=
  (∀ p, p < 640 → l p = 0 ∨ l p = 1 ∧ ∃ o, A o ∧ pl o = p ∧ LL o) ∧ (∀ k, k < n → ∃ o, A o ∧ pe k = nI (pl o) ∧ l (pl o) = 1) ∧ n + cnt (fun p => l p = 0) 640 ≤ 640 ∧
  (∀ o, A o → ¬ ex o → l (pl o) = 1 → kd o = 0 → (∃ k, k < n ∧ pe k = nI (pl o)) ∨ ∀ i, i < mn o → fs o i = 2 → l (pl (fv o i)) = 1)
def MX (l : Nat → Int32) (n : Nat) (l' : Nat → Int32) (n' : Nat) : Prop := (∀ p, l p = 1 → l' p = 1) ∧ n' + cnt (fun p => l' p = 0) 640 = n + cnt (fun p => l p = 0) 640 ∧ n ≤ n' ∧ (n' = n → l' = l)
theorem MX_0 (l : Nat → Int32) (n : Nat) : MX l n l n := ⟨fun _ h => h, rfl, Nat.le_refl _, fun _ => rfl⟩
theorem MX_t {l l' l'' : Nat → Int32} {n n' n'' : Nat} (h : MX l n l' n') (h' : MX l' n' l'' n'') : MX l n l'' n'' := by
  obtain ⟨a1, a2, a3, a4⟩ := h
  obtain ⟨b1, b2, b3, b4⟩ := h'
  refine ⟨fun p hp => b1 p (a1 p hp), by omega, by omega, fun e => ?_⟩
  rw [b4 (by omega), a4 (by omega)]
theorem e_reach {σ : xS} {A ex : Nat → Prop} {pl mn kd : Nat → Nat} {fs : Nat → Nat → Int32} {fv : Nat → Nat → Nat} {LL : Nat → Prop} (hA : ∀ o, A o → pl o < 640) (hinj : ∀ o q, A o → A q → pl o = pl q → o = q) {l pe : Nat → Int32} {n u : Nat} (hJ : MJ A ex pl mn kd fs fv LL l pe n) (hu : A u) (hl : LL u) (Q : xS → Prop)
    (h : ∀ l' pe' n', MJ A ex pl mn kd fs fv LL l' pe' n' → MX l n l' n' → l' (pl u) = 1 → Q (mks σ l' pe' n')) : p_Mar_reach (nI (pl u)) (mks σ l pe n) Q := by
  obtain ⟨j1, j2, j3, j4⟩ := hJ
  have hp := hA u hu
  unfold p_Mar_reach
  rcases j1 (pl u) hp with e | ⟨e, _⟩
  · have hc : cnt (fun p => upd l (pl u) 1 p = 0) 640 + 1 = cnt (fun p => l p = 0) 640 := by
      have a := cnt_lt (P := fun p => upd l (pl u) 1 p = 0) (Q := fun p => l p = 0) (n := 640) (k := pl u) (fun j _ hj => by
        by_cases ej : j = pl u
        · rw [ej]; exact e
        · rw [upd_n _ _ ej] at hj; exact hj) hp e (by rw [upd_s]; exact n10)
      have b : cnt (fun p => l p = 0) 640 ≤ cnt (fun p => upd l (pl u) 1 p = 0) 640 + 1 := by
        have key : ∀ m, cnt (fun p => l p = 0) m ≤ cnt (fun p => upd l (pl u) 1 p = 0) m + (if pl u < m then 1 else 0) := by
          intro m
          induction m with
          | zero => exact Nat.zero_le _
          | succ m ih =>
            by_cases em : m = pl u
            · subst em
              rw [cnt_y (fun p => l p = 0) e, cnt_n (fun p => upd l (pl u) 1 p = 0) (by rw [upd_s]; exact n10)]
              rw [if_neg (by omega)] at ih
              rw [if_pos (by omega)]
              omega
            · have : (if pl u < m then 1 else 0) = (if pl u < m + 1 then 1 else 0) := by
                by_cases h1 : pl u < m
                · rw [if_pos h1, if_pos (by omega)]
                · rw [if_neg h1, if_neg (by omega)]
              rw [← this]
              by_cases hm : l m = 0
              · rw [cnt_y (fun p => l p = 0) hm, cnt_y (fun p => upd l (pl u) 1 p = 0) (by rw [upd_n _ _ em]; exact hm)]; omega
              · rw [cnt_n (fun p => l p = 0) hm, cnt_n (fun p => upd l (pl u) 1 p = 0) (by rw [upd_n _ _ em]; exact hm)]; omega
        have := key 640
        rw [if_pos hp] at this
        exact this
      omega
    have hn : n < 640 := by omega
    simp (disch := omega) only [forall_eq, true_and, and_true, and_self, not_true_eq_false, not_false_eq_true, false_imp_iff, true_imp_iff, imp_self, implies_true, ne_eq, reduceIte, cl, cl0, cl1, cl2, vpn, vp0, le8, le16, le40, le640, le1400, le6400, lt8, lt16, le15, le2, nI_leI, nI_ltI, nI_eq, nI_1, nI_add, n_le0, n_lt0, n_0le, n_eq0, n_eq1, n_eq2, n_m1, n_m1r, Nat.reduceEqDiff, Nat.reduceAdd, Int32.add_zero, nI_pred, div16, mul15, mul40, mul16, mul640, mulr16, xu_s, xu_c, xu_k, xu_cc, rows_xu, xf_s, xf_c, rows_xf, xul_c, rows_xul, xul_L, lgc, mks_26, e, mks_w26, mks_11, nar1, mks_w27, mks_w11]
    refine h _ _ _ ⟨fun p hp' => ?_, fun k hk => ?_, by omega, fun o ho hx hlo hk => ?_⟩ ⟨fun p hp' => ?_, by omega, by omega, fun e => by omega⟩ (upd_s _ _ _)
    · by_cases ep : p = pl u
      · right; rw [ep, upd_s]; exact ⟨rfl, u, hu, rfl, hl⟩
      · rw [upd_n _ _ ep]; exact j1 p hp'
    · by_cases ek : k = n
      · exact ⟨u, hu, by rw [ek, upd_s], upd_s _ _ _⟩
      · obtain ⟨o, o1, o2, o3⟩ := j2 k (by omega)
        refine ⟨o, o1, by rw [upd_n _ _ ek]; exact o2, ?_⟩
        by_cases eo : pl o = pl u
        · rw [eo, upd_s]
        · rw [upd_n _ _ eo]; exact o3
    · by_cases eo : pl o = pl u
      · left; exact ⟨n, by omega, by rw [upd_s, eo]⟩
      · rw [upd_n _ _ eo] at hlo
        rcases j4 o ho hx hlo hk with ⟨k, k1, k2⟩ | hf
        · left; exact ⟨k, by omega, by rw [upd_n _ _ (by omega)]; exact k2⟩
        · right
          intro i hi h2
          by_cases ef : pl (fv o i) = pl u
          · rw [ef, upd_s]
          · rw [upd_n _ _ ef]; exact hf i hi h2
    · by_cases ep : p = pl u
      · rw [ep, upd_s]
      · rw [upd_n _ _ ep]; exact hp'
  · simp (disch := omega) only [forall_eq, true_and, and_true, and_self, not_true_eq_false, not_false_eq_true, false_imp_iff, true_imp_iff, imp_self, implies_true, ne_eq, reduceIte, cl, cl0, cl1, cl2, vpn, vp0, le8, le16, le40, le640, le1400, le6400, lt8, lt16, le15, le2, nI_leI, nI_ltI, nI_eq, nI_1, nI_add, n_le0, n_lt0, n_0le, n_eq0, n_eq1, n_eq2, n_m1, n_m1r, Nat.reduceEqDiff, Nat.reduceAdd, Int32.add_zero, nI_pred, div16, mul15, mul40, mul16, mul640, mulr16, xu_s, xu_c, xu_k, xu_cc, rows_xu, xf_s, xf_c, rows_xf, xul_c, rows_xul, xul_L, lgc, mks_26, e, n10]
    exact h l pe n ⟨j1, j2, j3, j4⟩ (MX_0 l n) e
theorem Vw_o {s c : Nat → Int32} {A : Nat → Prop} {pl mn kd : Nat → Nat} {hd : Nat → Int32} {fs fc : Nat → Nat → Int32} {fv : Nat → Nat → Nat} (hV : Vw s c A pl mn kd hd fs fc fv) {o : Nat} (ho : A o) : pl o < 640 ∧ pl o + mn o < 640 ∧ mn o < 16 ∧ kd o < 3 ∧ s (pl o) = 3 ∧ c (pl o) &&& 15 = nI (mn o) ∧ c (pl o) >>> (14 &&& 31) = nI (kd o) ∧ (kd o = 2 → 0 < mn o) := by
  obtain ⟨v1, v2, v3, v4⟩ := hV
  obtain ⟨a1, a2, a3, a4, a5, a6⟩ := v3 o ho
  obtain ⟨b1, b2⟩ := v1.1 o ho
  exact ⟨by omega, a1, a2, a3, b1, by rw [b2, a4], by rw [b2, a5], a6⟩
theorem Vw_i {s c : Nat → Int32} {A : Nat → Prop} {pl mn kd : Nat → Nat} {hd : Nat → Int32} {fs fc : Nat → Nat → Int32} {fv : Nat → Nat → Nat} (hV : Vw s c A pl mn kd hd fs fc fv) : ∀ o q, A o → A q → pl o = pl q → o = q := by
  intro o q ho hq e
  by_cases h : o = q
  · exact h
  · have := hV.2.1 o q ho hq h; omega
theorem Vw_f {s c : Nat → Int32} {A : Nat → Prop} {pl mn kd : Nat → Nat} {hd : Nat → Int32} {fs fc : Nat → Nat → Int32} {fv : Nat → Nat → Nat} (hV : Vw s c A pl mn kd hd fs fc fv) {o i : Nat} (ho : A o) (hi : i < mn o) : s (pl o + 1 + i) = fs o i ∧ (fs o i = 2 → A (fv o i) ∧ c (pl o + 1 + i) = nI (pl (fv o i))) := by
  obtain ⟨v1, v2, v3, v4⟩ := hV
  obtain ⟨b1, b2⟩ := v1.2.1 o i ho hi
  exact ⟨b1, fun e => ⟨((v4 o i ho hi).2 e).1, by rw [b2]; exact ((v4 o i ho hi).2 e).2⟩⟩
theorem e_reachFields {σ : xS} {A : Nat → Prop} {pl mn kd : Nat → Nat} {hd : Nat → Int32} {fs fc : Nat → Nat → Int32} {fv : Nat → Nat → Nat} (hV : Vw (σ 28) (σ 29) A pl mn kd hd fs fc fv) {ex LL : Nat → Prop} {l pe : Nat → Int32} {n o f : Nat} (hJ : MJ A ex pl mn kd fs fv LL l pe n) (ho : A o) (hf : f ≤ mn o) (hl : ∀ i, f ≤ i → i < mn o → fs o i = 2 → LL (fv o i)) (Q : xS → Prop)
    (h : ∀ l' pe' n', MJ A ex pl mn kd fs fv LL l' pe' n' → MX l n l' n' → (∀ i, f ≤ i → i < mn o → fs o i = 2 → l' (pl (fv o i)) = 1) → Q (mks σ l' pe' n')) : p_Mar_reachFields (nI (pl o)) (nI f) (mks σ l pe n) Q := by
  obtain ⟨a1, a2, a3, a4, a5, a6, a7, a8⟩ := Vw_o hV ho
  unfold p_Mar_reachFields p_Hea_fieldsOf
  simp (disch := omega) only [forall_eq, true_and, and_true, and_self, not_true_eq_false, not_false_eq_true, false_imp_iff, true_imp_iff, imp_self, implies_true, ne_eq, reduceIte, cl, cl0, cl1, cl2, vpn, vp0, le8, le16, le40, le640, le1400, le6400, lt8, lt16, le15, le2, nI_leI, nI_ltI, nI_eq, nI_1, nI_add, n_le0, n_lt0, n_0le, n_eq0, n_eq1, n_eq2, n_m1, n_m1r, Nat.reduceEqDiff, Nat.reduceAdd, Int32.add_zero, nI_pred, div16, mul15, mul40, mul16, mul640, mulr16, xu_s, xu_c, xu_k, xu_cc, rows_xu, xf_s, xf_c, rows_xf, xul_c, rows_xul, xul_L, lgc, mks_d, a6]
  refine lpS (S := (Nat → Int32) × (Nat → Int32) × Nat) (fun g i s => p_Mar_reachFields_L27 Q g (nI (pl o)) (nI (mn o)) (nI (f + i)) (mks σ s.1 s.2.1 s.2.2)) (fun i s => MJ A ex pl mn kd fs fv LL s.1 s.2.1 s.2.2 ∧ MX l n s.1 s.2.2 ∧ ∀ j, f ≤ j → j < f + i → fs o j = 2 → s.1 (pl (fv o j)) = 1) (mn o - f) ?_ ?_ (s := (l, pe, n)) ⟨hJ, MX_0 l n, fun j h1 h2 => by omega⟩
  · rintro g i ⟨l1, pe1, n1⟩ hi ⟨i1, i2, i3⟩ hk
    dsimp only at i1 i2 i3 hk ⊢
    show b_Mar_reachFields_L27 (p_Mar_reachFields_L27 Q g) Q _ _ (nI (f + i)) _
    unfold b_Mar_reachFields_L27 p_Val_isReference_19 p_Val_contentOf_19
    have l1' : ¬ mn o ≤ f + i := by omega
    obtain ⟨f1, f2⟩ := Vw_f hV ho (show f + i < mn o by omega)
    by_cases e2 : fs o (f + i) = 2
    · obtain ⟨f3, f4⟩ := f2 e2
      simp (disch := omega) only [forall_eq, true_and, and_true, and_self, not_true_eq_false, not_false_eq_true, false_imp_iff, true_imp_iff, imp_self, implies_true, ne_eq, reduceIte, cl, cl0, cl1, cl2, vpn, vp0, le8, le16, le40, le640, le1400, le6400, lt8, lt16, le15, le2, nI_leI, nI_ltI, nI_eq, nI_1, nI_add, n_le0, n_lt0, n_0le, n_eq0, n_eq1, n_eq2, n_m1, n_m1r, Nat.reduceEqDiff, Nat.reduceAdd, Int32.add_zero, nI_pred, div16, mul15, mul40, mul16, mul640, mulr16, xu_s, xu_c, xu_k, xu_cc, rows_xu, xf_s, xf_c, rows_xf, xul_c, rows_xul, xul_L, lgc, l1', mks_d, f1, e2, n10, f4]
      refine e_reach (fun o ho => (Vw_o hV ho).1) (Vw_i hV) i1 f3 (hl _ (by omega) (by omega) e2) _ (fun l' pe' n' j1 j2 j3 => ?_)
      refine hk (l', pe', n') ⟨j1, MX_t i2 j2, fun j h1 h2 h3 => ?_⟩
      by_cases ej : j = f + i
      · rw [ej]; exact j3
      · exact j2.1 _ (i3 j h1 (by omega) h3)
    · simp (disch := omega) only [forall_eq, true_and, and_true, and_self, not_true_eq_false, not_false_eq_true, false_imp_iff, true_imp_iff, imp_self, implies_true, ne_eq, reduceIte, cl, cl0, cl1, cl2, vpn, vp0, le8, le16, le40, le640, le1400, le6400, lt8, lt16, le15, le2, nI_leI, nI_ltI, nI_eq, nI_1, nI_add, n_le0, n_lt0, n_0le, n_eq0, n_eq1, n_eq2, n_m1, n_m1r, Nat.reduceEqDiff, Nat.reduceAdd, Int32.add_zero, nI_pred, div16, mul15, mul40, mul16, mul640, mulr16, xu_s, xu_c, xu_k, xu_cc, rows_xu, xf_s, xf_c, rows_xf, xul_c, rows_xul, xul_L, lgc, l1', mks_d, f1, e2, n10]
      refine hk (l1, pe1, n1) ⟨i1, i2, fun j h1 h2 h3 => i3 j h1 ?_ h3⟩
      have : j ≠ f + i := fun e => e2 (e ▸ h3)
      omega
  · rintro g ⟨l1, pe1, n1⟩ ⟨i1, i2, i3⟩
    show b_Mar_reachFields_L27 (p_Mar_reachFields_L27 Q g) Q _ _ (nI (f + (mn o - f))) _
    unfold b_Mar_reachFields_L27
    rw [show f + (mn o - f) = mn o by omega]
    simp (disch := omega) only [forall_eq, true_and, and_true, and_self, not_true_eq_false, not_false_eq_true, false_imp_iff, true_imp_iff, imp_self, implies_true, ne_eq, reduceIte, cl, cl0, cl1, cl2, vpn, vp0, le8, le16, le40, le640, le1400, le6400, lt8, lt16, le15, le2, nI_leI, nI_ltI, nI_eq, nI_1, nI_add, n_le0, n_lt0, n_0le, n_eq0, n_eq1, n_eq2, n_m1, n_m1r, Nat.reduceEqDiff, Nat.reduceAdd, Int32.add_zero, nI_pred, div16, mul15, mul40, mul16, mul640, mulr16, xu_s, xu_c, xu_k, xu_cc, rows_xu, xf_s, xf_c, rows_xf, xul_c, rows_xul, xul_L, lgc, Nat.le_refl]
    exact h l1 pe1 n1 i1 i2 (fun i h1 h2 h3 => i3 i h1 (by omega) h3)
