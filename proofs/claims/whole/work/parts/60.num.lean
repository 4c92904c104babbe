theorem cl {n : Nat} (h : n < 2147483648) : (nI n).toNatClampNeg = n := nI_clamp h
theorem cl0 : (0 : Int32).toNatClampNeg = 0 := rfl
theorem cl1 : (1 : Int32).toNatClampNeg = 1 := rfl
theorem cl2 : (2 : Int32).toNatClampNeg = 2 := rfl
theorem vpn {n N : Nat} (h : n < N) (hN : N < 2147483648) : vp_in (nI n) N ↔ True := ⟨fun _ => trivial, fun _ => vp_in_nI h hN⟩
theorem vp0 {N : Nat} (h : 0 < N) (hN : N < 2147483648) : vp_in 0 N ↔ True := vpn (n := 0) h hN
theorem le_lit (c : Int32) (k : Nat) (hc : c = nI k) (hk : k < 2147483648) {i : Nat} (h : i < 2147483648) : c ≤ nI i ↔ k ≤ i := by rw [hc]; exact nI_leI hk h
theorem le8 {i : Nat} (h : i < 2147483648) : (8 : Int32) ≤ nI i ↔ 8 ≤ i := le_lit 8 8 rfl (by decide) h
theorem le16 {i : Nat} (h : i < 2147483648) : (16 : Int32) ≤ nI i ↔ 16 ≤ i := le_lit 16 16 rfl (by decide) h
theorem le40 {i : Nat} (h : i < 2147483648) : (40 : Int32) ≤ nI i ↔ 40 ≤ i := le_lit 40 40 rfl (by decide) h
theorem le640 {i : Nat} (h : i < 2147483648) : (640 : Int32) ≤ nI i ↔ 640 ≤ i := le_lit 640 640 rfl (by decide) h
theorem le1400 {i : Nat} (h : i < 2147483648) : (1400 : Int32) ≤ nI i ↔ 1400 ≤ i := le_lit 1400 1400 rfl (by decide) h
theorem le6400 {i : Nat} (h : i < 2147483648) : (6400 : Int32) ≤ nI i ↔ 6400 ≤ i := le_lit 6400 6400 rfl (by decide) h
theorem lt8 {i : Nat} (h : i < 2147483648) : nI i < (8 : Int32) ↔ i < 8 := nI_ltI (b := 8) h (by decide)
theorem lt16 {i : Nat} (h : i < 2147483648) : nI i < (16 : Int32) ↔ i < 16 := nI_ltI (b := 16) h (by decide)
theorem le15 {i : Nat} (h : i < 2147483648) : nI i ≤ (16 : Int32) ↔ i ≤ 16 := nI_leI (b := 16) h (by decide)
theorem le2 {i : Nat} (h : i < 2147483648) : (16 : Int32) < nI i ↔ 16 < i := nI_ltI (a := 16) (by decide) h
theorem n_le0 {i : Nat} (h : i < 2147483648) : nI i ≤ 0 ↔ i = 0 := by
  have := nI_leI (a := i) (b := 0) h (by decide)
  rw [nI_0] at this
  rw [this]; omega
theorem n_lt0 {i : Nat} (h : i < 2147483648) : nI i < 0 ↔ False := ⟨fun x => nI_pos h x, False.elim⟩
theorem n_0le {i : Nat} (h : i < 2147483648) : 0 ≤ nI i ↔ True := ⟨fun _ => trivial, fun _ => nI_pos' h⟩
theorem n_eq0 {i : Nat} (h : i < 2147483648) : nI i = 0 ↔ i = 0 := nI_eq (b := 0) h (by decide)
theorem n_eq1 {i : Nat} (h : i < 2147483648) : nI i = 1 ↔ i = 1 := nI_eq (b := 1) h (by decide)
theorem n_eq2 {i : Nat} (h : i < 2147483648) : nI i = 2 ↔ i = 2 := nI_eq (b := 2) h (by decide)
theorem n_m1 {i : Nat} (h : i < 2147483648) : nI i = -1 ↔ False := ⟨fun x => by
  have h0 := nI_pos h
  rw [x] at h0
  exact h0 (by decide), False.elim⟩
theorem n_m1r {i : Nat} (h : i < 2147483648) : -1 = nI i ↔ False := ⟨fun x => (n_m1 h).mp x.symm, False.elim⟩
theorem div16 {i : Nat} (h : i < 2147483648) : nI i / 16 = nI (i / 16) := pk_div (d := 16) h (by decide) (by decide)
theorem mul15 (i : Nat) : 15 * nI i = nI (15 * i) := pk_mul 15 i
theorem mul40 (i : Nat) : 40 * nI i = nI (40 * i) := pk_mul 40 i
theorem mul16 (i : Nat) : 16 * nI i = nI (16 * i) := pk_mul 16 i
theorem mul640 (i : Nat) : 640 * nI i = nI (640 * i) := pk_mul 640 i
theorem mulr16 (i : Nat) : nI i * 16 = nI (i * 16) := pk_mul i 16
theorem xu_s (σ : xS) (c k : Nat) (v : Int32) : xu σ c k v c k = v := by rw [xu_eq, if_pos rfl, if_pos rfl]
theorem xu_k (σ : xS) (c k : Nat) (v : Int32) {j : Nat} (h : j ≠ k) : xu σ c k v c j = σ c j := by rw [xu_eq, if_pos rfl, if_neg h]
theorem xu_c (σ : xS) (c k : Nat) (v : Int32) {d : Nat} (h : d ≠ c) : xu σ c k v d = σ d := by funext j; rw [xu_eq, if_neg h]
theorem xu_cc (σ : xS) (c k : Nat) (v : Int32) : xu σ c k v c = upd (σ c) k v := by funext j; rw [xu_eq, if_pos rfl]; rfl
abbrev xf (σ : xS) (c : Nat) (f : Nat → Int32) : xS := va_up σ c f
theorem xf_s (σ : xS) (c : Nat) (f : Nat → Int32) : va_up σ c f c = f := by unfold va_up; rw [if_pos rfl]
theorem xf_c (σ : xS) (c : Nat) (f : Nat → Int32) {d : Nat} (h : d ≠ c) : va_up σ c f d = σ d := by unfold va_up; rw [if_neg h]
theorem lpF (P : Nat → Nat → Prop) (N : Nat) (h : ∀ n i, i < N → P n (i + 1) → P (n + 1) i) (hN : ∀ n, P (n + 1) N) : ∃ n, P n 0 := by
  have key : ∀ d i, i + d = N → P (d + 1) i := by
    intro d
    induction d with
    | zero => intro i hi; rw [show i = N by omega]; exact hN 0
    | succ d ih => intro i hi; exact h _ i (by omega) (ih (i + 1) (by omega))
  exact ⟨N + 1, key N 0 (by omega)⟩
theorem lpR {S : Type} (P : Nat → S → Prop) (I : Nat → S → Prop) (N : Nat) (h : ∀ n i s, i < N → I i s → (∀ s', I (i + 1) s' → P n s') → P (n + 1) s) (hN : ∀ n s, I N s → P (n + 1) s) {s : S} (h0 : I 0 s) : ∃ n, P n s := by
  have key : ∀ d i s, i + d = N → I i s → P (d + 1) s := by
    intro d
    induction d with
    | zero => intro i s hi hs; rw [show i = N by omega] at hs; exact hN 0 s hs
    | succ d ih => intro i s hi hs; exact h _ i s (by omega) hs (fun s' hs' => ih (i + 1) s' (by omega) hs')
  exact ⟨N + 1, key N 0 s (by omega) h0⟩
theorem pigeon : ∀ (m n : Nat) (f : Nat → Nat), (∀ i, i < n → f i < m) → (∀ i j, i < j → j < n → f i ≠ f j) → n ≤ m := by
  intro m
  induction m with
  | zero => intro n f h1 h2; rcases Nat.eq_zero_or_pos n with h | h; omega; exact absurd (h1 0 h) (by omega)
  | succ m ih =>
    intro n f h1 h2
    rcases Nat.eq_zero_or_pos n with h0 | h0
    · omega
    by_cases hx : ∃ i, i < n ∧ f i = m
    · obtain ⟨i, hi, hm⟩ := hx
      have := ih (n - 1) (fun j => if j < i then f j else f (j + 1)) (fun j hj => by
        by_cases hji : j < i
        · simp only [hji, if_true]
          have := h1 j (by omega)
          have := h2 j i hji hi
          omega
        · simp only [hji, if_false]
          have := h1 (j + 1) (by omega)
          have := h2 i (j + 1) (by omega) (by omega)
          omega) (fun a b hab hb => by
        by_cases h3 : a < i
        · by_cases h4 : b < i
          · simp only [h3, h4, if_true]; exact h2 a b hab (by omega)
          · simp only [h3, h4, if_true, if_false]; exact h2 a (b + 1) (by omega) (by omega)
        · have h4 : ¬ b < i := by omega
          simp only [h3, h4, if_false]; exact h2 (a + 1) (b + 1) (by omega) (by omega))
      omega
    · have := ih n f (fun j hj => by
        have := h1 j hj
        have : f j ≠ m := fun e => hx ⟨j, hj, e⟩
        omega) h2
      omega
noncomputable def cnt (P : Nat → Prop) : Nat → Nat := Nat.rec 0 (fun k c => c + (@ite Nat (P k) (Classical.propDecidable _) 1 0))
theorem cnt_s (P : Nat → Prop) (n : Nat) : cnt P (n + 1) = cnt P n + (@ite Nat (P n) (Classical.propDecidable _) 1 0) := rfl
theorem cnt_y (P : Nat → Prop) {n : Nat} (h : P n) : cnt P (n + 1) = cnt P n + 1 := by rw [cnt_s, if_pos h]
theorem cnt_n (P : Nat → Prop) {n : Nat} (h : ¬ P n) : cnt P (n + 1) = cnt P n := by rw [cnt_s, if_neg h]; rfl
theorem cnt_le (P : Nat → Prop) (n : Nat) : cnt P n ≤ n := by
  induction n with
  | zero => exact Nat.le_refl 0
  | succ n ih => by_cases h : P n
                 · rw [cnt_y P h]; omega
                 · rw [cnt_n P h]; omega
theorem cnt_mono {P Q : Nat → Prop} (n : Nat) (h : ∀ k, k < n → P k → Q k) : cnt P n ≤ cnt Q n := by
  induction n with
  | zero => exact Nat.le_refl 0
  | succ n ih =>
    have := ih (fun k hk => h k (by omega))
    by_cases hp : P n
    · rw [cnt_y P hp, cnt_y Q (h n (by omega) hp)]; omega
    · rw [cnt_n P hp]
      by_cases hq : Q n
      · rw [cnt_y Q hq]; omega
      · rw [cnt_n Q hq]; omega
theorem cnt_lt {P Q : Nat → Prop} {n k : Nat} (h : ∀ j, j < n → P j → Q j) (hk : k < n) (hq : Q k) (hp : ¬ P k) : cnt P n + 1 ≤ cnt Q n := by
  induction n with
  | zero => omega
  | succ n ih =>
    by_cases e : k = n
    · rw [e] at hq hp
      rw [cnt_n P hp, cnt_y Q hq]
      have := cnt_mono (P := P) (Q := Q) n (fun j hj => h j (by omega))
      omega
    · have := ih (fun j hj => h j (by omega)) (by omega)
      by_cases hp : P n
      · rw [cnt_y P hp, cnt_y Q (h n (by omega) hp)]; omega
      · rw [cnt_n P hp]
        by_cases hq : Q n
        · rw [cnt_y Q hq]; omega
        · rw [cnt_n Q hq]; omega
theorem cnt_0 {P : Nat → Prop} {n : Nat} (h : cnt P n = 0) : ∀ k, k < n → ¬ P k := by
  induction n with
  | zero => intro k hk; omega
  | succ n ih =>
    intro k hk hp
    by_cases hq : P n
    · rw [cnt_y P hq] at h; omega
    · rw [cnt_n P hq] at h
      by_cases e : k = n
      · exact hq (e ▸ hp)
      · exact ih h k (by omega) hp
