def iA (K : Nat → Int32) (o : Nat) : Prop := o < 640 ∧ K o ≠ -1
def vOk (K G : Nat → Int32) (r : Nat) (s v : Int32) : Prop := (s = 0 ∧ v = 0) ∨ s = 1 ∨ (s = 2 ∧ ∃ u, iA K u ∧ v = nI u ∧ (G u).toNatClampNeg ≤ r)
def tr (P : Nat → Int32) (s v : Int32) : Int32 := if s = 2 then P ((v).toNatClampNeg) else v
def hdI (k t m : Int32) : Int32 := nI ((k).toNatClampNeg * 16384 + (t).toNatClampNeg * 16 + (m).toNatClampNeg)
def iObj (K T M G P W O : Nat → Int32) (R Wn : Int32) : Prop := ∀ o, iA K o →
  (K o = nI ((K o).toNatClampNeg) ∧ (K o).toNatClampNeg < 3) ∧ (T o = nI ((T o).toNatClampNeg) ∧ (T o).toNatClampNeg < 1000) ∧ (M o = nI ((M o).toNatClampNeg) ∧ (M o).toNatClampNeg < 16) ∧ (K o = 2 → 0 < (M o).toNatClampNeg) ∧
  (G o = nI ((G o).toNatClampNeg) ∧ (G o).toNatClampNeg < (R).toNatClampNeg) ∧ (P o = nI ((P o).toNatClampNeg) ∧ (P o).toNatClampNeg < 640) ∧ (W o = nI ((W o).toNatClampNeg) ∧ (W o).toNatClampNeg ≤ (Wn).toNatClampNeg) ∧ O ((P o).toNatClampNeg) = nI o
def iPla (K P O : Nat → Int32) : Prop := ∀ p, p < 640 → O p = -1 ∨ ∃ o, iA K o ∧ O p = nI o ∧ (P o).toNatClampNeg = p
def iFld (K M G S V : Nat → Int32) : Prop := ∀ o i, iA K o → i < (M o).toNatClampNeg → vOk K G ((G o).toNatClampNeg) (S (15 * o + i)) (V (15 * o + i))
def iRoo (K G RS RV : Nat → Int32) : Prop := ∀ k, k < 16 → vOk K G 8 (RS k) (RV k)
def iQue (K Q : Nat → Int32) (n : Int32) : Prop := n = nI ((n).toNatClampNeg) ∧ (n).toNatClampNeg ≤ 640 ∧ (∀ k, k < (n).toNatClampNeg → iA K ((Q k).toNatClampNeg) ∧ Q k = nI ((Q k).toNatClampNeg)) ∧ (∀ j k, j < k → k < (n).toNatClampNeg → (Q j).toNatClampNeg ≠ (Q k).toNatClampNeg)
def iReg (Ow Pg Ro Fi : Nat → Int32) (R : Int32) : Prop := R = nI ((R).toNatClampNeg) ∧ (R).toNatClampNeg ≤ 8 ∧ ∀ r, r < (R).toNatClampNeg →
  (Pg r = nI ((Pg r).toNatClampNeg) ∧ (Pg r).toNatClampNeg ≤ 40) ∧ (Fi r = nI ((Fi r).toNatClampNeg) ∧ (Fi r).toNatClampNeg ≤ 16) ∧ ((Pg r).toNatClampNeg = 0 ↔ (Fi r).toNatClampNeg = 0) ∧
  (∀ k, k < (Pg r).toNatClampNeg → Ro (40 * r + k) = nI ((Ro (40 * r + k)).toNatClampNeg) ∧ (Ro (40 * r + k)).toNatClampNeg < 40 ∧ Ow ((Ro (40 * r + k)).toNatClampNeg) = nI r) ∧
  (∀ j k, j < k → k < (Pg r).toNatClampNeg → (Ro (40 * r + j)).toNatClampNeg ≠ (Ro (40 * r + k)).toNatClampNeg)
def iOwn (Ow Ta Pg Ro : Nat → Int32) (R : Int32) : Prop := ∀ p, p < 40 → (Ow p = -1 ∧ Ta p = 0) ∨ (Ta p = 1 ∧ ∃ r k, r < (R).toNatClampNeg ∧ k < (Pg r).toNatClampNeg ∧ Ow p = nI r ∧ (Ro (40 * r + k)).toNatClampNeg = p)
def lDis (A : Nat → Prop) (pl mn : Nat → Nat) : Prop := ∀ o q, A o → A q → o ≠ q → pl o + mn o < pl q ∨ pl q + mn q < pl o
def iLay (K M G P Ow Pg Ro Fi : Nat → Int32) : Prop := (∀ o, iA K o → Ow ((P o).toNatClampNeg / 16) = nI ((G o).toNatClampNeg) ∧ (P o).toNatClampNeg % 16 + (M o).toNatClampNeg < 16 ∧
  ((Ro (40 * (G o).toNatClampNeg + (Pg ((G o).toNatClampNeg)).toNatClampNeg - 1)).toNatClampNeg = (P o).toNatClampNeg / 16 → (P o).toNatClampNeg % 16 + (M o).toNatClampNeg < (Fi ((G o).toNatClampNeg)).toNatClampNeg)) ∧ lDis (iA K) (fun o => (P o).toNatClampNeg) (fun o => (M o).toNatClampNeg)
def HeapR (s c : Nat → Int32) (A : Nat → Prop) (pl mn : Nat → Nat) (hd : Nat → Int32) (fs fc : Nat → Nat → Int32) : Prop :=
  (∀ o, A o → s (pl o) = 3 ∧ c (pl o) = hd o) ∧ (∀ o i, A o → i < mn o → s (pl o + 1 + i) = fs o i ∧ c (pl o + 1 + i) = fc o i) ∧
  (∀ p, p < 640 → (∀ o, A o → p < pl o ∨ pl o + mn o < p) → s p = 4 ∧ c p = 0)
def cHea (s c K T M P S V : Nat → Int32) : Prop := HeapR s c (iA K) (fun o => (P o).toNatClampNeg) (fun o => (M o).toNatClampNeg) (fun o => hdI (K o) (T o) (M o)) (fun o i => S (15 * o + i)) (fun o i => tr P (S (15 * o + i)) (V (15 * o + i)))
def cRoo (s c RS RV P : Nat → Int32) : Prop := ∀ k, k < 16 → s k = RS k ∧ c k = tr P (RS k) (RV k)
def cReg (a R : Int32) (le fi Pg Fi Ro : Nat → Int32) (rows : Nat → Nat → Int32) : Prop := a = R ∧ ∀ r, r < (R).toNatClampNeg → le r = Pg r ∧ fi r = (if (Pg r).toNatClampNeg = 0 then 16 else Fi r) ∧ ∀ k, k < (Pg r).toNatClampNeg → rows r k = Ro (40 * r + k)
def cQue (a n : Int32) (it Q P : Nat → Int32) : Prop := a = n ∧ ∀ k, k < (n).toNatClampNeg → it k = P ((Q k).toNatClampNeg)
def cWat (K P W : Nat → Int32) (a : Int32) (it : Nat → Int32) : Prop := a = nI ((a).toNatClampNeg) ∧ (a).toNatClampNeg ≤ 640 ∧ ∃ w : Nat → Nat,
  (∀ k, k < (a).toNatClampNeg → iA K (w k) ∧ 0 < (W (w k)).toNatClampNeg ∧ it k = P (w k)) ∧ (∀ j k, j < k → k < (a).toNatClampNeg → (W (w j)).toNatClampNeg < (W (w k)).toNatClampNeg) ∧ (∀ o, iA K o → 0 < (W o).toNatClampNeg → ∃ k, k < (a).toNatClampNeg ∧ w k = o)
def cScr (n : Int32) (it isP : Nat → Int32) : Prop := n = nI ((n).toNatClampNeg) ∧ (n).toNatClampNeg ≤ 640 ∧ (∀ k, k < (n).toNatClampNeg → it k = nI ((it k).toNatClampNeg) ∧ (it k).toNatClampNeg < 640) ∧ ∀ p, p < 640 → isP p = 0 ∨ ∃ k, k < (n).toNatClampNeg ∧ (it k).toNatClampNeg = p
def rowsF (σ : xS) (r : Nat) (k : Nat) : Int32 := if r < 8 then σ (32 + r) k else 0
theorem rows_xu (σ : xS) (c k : Nat) (v : Int32) (h : c < 32 ∨ 40 ≤ c) : rowsF (xu σ c k v) = rowsF σ := by
  funext r j
  unfold rowsF
  by_cases hr : r < 8
  · rw [if_pos hr, if_pos hr, xu_c _ _ _ _ (by omega)]
  · rw [if_neg hr, if_neg hr]
theorem rows_xf (σ : xS) (c : Nat) (f : Nat → Int32) (h : c < 32 ∨ 40 ≤ c) : rowsF (va_up σ c f) = rowsF σ := by
  funext r j
  unfold rowsF
  by_cases hr : r < 8
  · rw [if_pos hr, if_pos hr, xf_c _ _ _ (by omega)]
  · rw [if_neg hr, if_neg hr]
theorem rows_in (σ : xS) {r : Nat} (h : r < 8) : rowsF σ r = σ (32 + r) := by funext k; unfold rowsF; rw [if_pos h]
theorem rows_up (σ : xS) {r : Nat} (h : r < 8) (k : Nat) (v : Int32) : rowsF (xu σ (32 + r) k v) = va_up (rowsF σ) r (upd (σ (32 + r)) k v) := by
  funext q j
  unfold rowsF va_up
  by_cases e : q = r
  · rw [e, if_pos h, if_pos rfl, xu_cc]
  · rw [if_neg e]
    show _ = if q < 8 then σ (32 + q) j else 0
    by_cases hq : q < 8
    · rw [if_pos hq, if_pos hq, xu_c _ _ _ _ (by omega)]
    · rw [if_neg hq, if_neg hq]
def Ref (t : Nat) (σ : xS) : Prop :=
  iObj (σ 40) (σ 41) (σ 42) (σ 43) (σ 44) (σ 45) (σ 49) (σ 31 13) (σ 31 10) ∧ iPla (σ 40) (σ 44) (σ 49) ∧ iFld (σ 40) (σ 42) (σ 43) (σ 46) (σ 47) ∧ iRoo (σ 40) (σ 43) (σ 54) (σ 55) ∧
  iQue (σ 40) (σ 56) (σ 31 19) ∧ iReg (σ 20) (σ 51) (σ 52) (σ 53) (σ 31 13) ∧ iOwn (σ 20) (σ 50) (σ 51) (σ 52) (σ 31 13) ∧ iLay (σ 40) (σ 42) (σ 43) (σ 44) (σ 20) (σ 51) (σ 52) (σ 53) ∧
  (σ 31 10 = nI ((σ 31 10).toNatClampNeg) ∧ (σ 31 10).toNatClampNeg ≤ t)
def Cls (σ : xS) : Prop :=
  cHea (σ 28) (σ 29) (σ 40) (σ 41) (σ 42) (σ 44) (σ 46) (σ 47) ∧ cRoo (σ 17) (σ 18) (σ 54) (σ 55) (σ 44) ∧ cReg (σ 7 4) (σ 31 13) (σ 22) (σ 23) (σ 51) (σ 53) (σ 52) (rowsF σ) ∧
  cQue (σ 8 1) (σ 31 19) (σ 24) (σ 56) (σ 44) ∧ cWat (σ 40) (σ 44) (σ 45) (σ 9 1) (σ 25) ∧
  (σ 2 2 = σ 31 21 ∧ σ 2 3 = σ 31 22 ∧ σ 2 4 = σ 31 23 ∧ σ 0 4 = σ 31 24 ∧ σ 0 5 = σ 31 25) ∧ cScr (σ 3 3) (σ 12) (σ 13)
def Inv (t : Nat) (σ : xS) : Prop := Ref t σ ∧ Cls σ
theorem Inv_nop (t : Nat) (σ : xS) (_ : t < 512) (h : Inv t σ) : Inv (t + 1) σ := by
  obtain ⟨⟨h1, h2, h3, h4, h5, h6, h7, h8, h9, h10⟩, h11⟩ := h
  exact ⟨⟨h1, h2, h3, h4, h5, h6, h7, h8, h9, Nat.le_succ_of_le h10⟩, h11⟩
theorem no_A0 (o : Nat) : ¬ iA (fun _ => -1) o := fun h => h.2 rfl
theorem Inv_0 : Inv 0 sg0 := by
  have e40 : sg0 40 = fun _ => -1 := rfl
  have e49 : sg0 49 = fun _ => -1 := rfl
  have e31 : ∀ k, sg0 31 k = 0 := fun _ => rfl
  refine ⟨⟨?_, ?_, ?_, ?_, ?_, ?_, ?_, ?_, ?_⟩, ?_, ?_, ?_, ?_, ?_, ?_, ?_⟩
  · intro o h; rw [e40] at h; exact absurd h (no_A0 o)
  · intro p _; left; rfl
  · intro o i h; rw [e40] at h; exact absurd h (no_A0 o)
  · intro k _; left; exact ⟨rfl, rfl⟩
  · refine ⟨rfl, Nat.zero_le _, fun k h => absurd h (Nat.not_lt_zero _), fun j k _ h => absurd h (Nat.not_lt_zero _)⟩
  · exact ⟨rfl, Nat.zero_le _, fun r h => absurd h (Nat.not_lt_zero _)⟩
  · intro p _; left; exact ⟨rfl, rfl⟩
  · refine ⟨fun o h => ?_, fun o q h => ?_⟩ <;> (rw [e40] at h; exact absurd h (no_A0 o))
  · exact ⟨rfl, Nat.zero_le _⟩
  · refine ⟨fun o h => ?_, fun o i h => ?_, fun p _ _ => ⟨rfl, rfl⟩⟩ <;> (rw [e40] at h; exact absurd h (no_A0 o))
  · intro k _; exact ⟨rfl, rfl⟩
  · exact ⟨rfl, fun r h => absurd h (Nat.not_lt_zero _)⟩
  · exact ⟨rfl, fun r h => absurd h (Nat.not_lt_zero _)⟩
  · refine ⟨rfl, Nat.zero_le _, fun _ => 0, fun k h => absurd h (Nat.not_lt_zero _), fun j k _ h => absurd h (Nat.not_lt_zero _), fun o h => ?_⟩
    rw [e40] at h; exact absurd h (no_A0 o)
  · exact ⟨rfl, rfl, rfl, rfl, rfl⟩
  · exact ⟨rfl, Nat.zero_le _, fun k h => absurd h (Nat.not_lt_zero _), fun p _ => Or.inl rfl⟩
theorem hd_kind {k t m : Int32} (hk : k = nI ((k).toNatClampNeg)) (h0 : (k).toNatClampNeg < 3) (ht : (t).toNatClampNeg < 1000) (hm : (m).toNatClampNeg < 16) : hdI k t m >>> (14 &&& 31) = k := by
  unfold hdI
  rw [show ((14 : Int32) &&& 31) = 14 from rfl, pk_shrN (by omega) 14 14 (by decide)]
  rw [show ((k).toNatClampNeg * 16384 + (t).toNatClampNeg * 16 + (m).toNatClampNeg) / 2 ^ 14 = (k).toNatClampNeg by omega, ← hk]
theorem hd_tag {k t m : Int32} (hk : (k).toNatClampNeg < 3) (ht : t = nI ((t).toNatClampNeg)) (h0 : (t).toNatClampNeg < 1000) (hm : (m).toNatClampNeg < 16) : (hdI k t m >>> (4 &&& 31)) &&& 1023 = t := by
  unfold hdI
  rw [show ((4 : Int32) &&& 31) = 4 from rfl, pk_shrN (by omega) 4 4 (by decide), pk_andN (by omega) 10 (by decide)]
  rw [show ((k).toNatClampNeg * 16384 + (t).toNatClampNeg * 16 + (m).toNatClampNeg) / 2 ^ 4 % 2 ^ 10 = (t).toNatClampNeg by omega, ← ht]
theorem hd_many {k t m : Int32} (hk : (k).toNatClampNeg < 3) (h0 : (t).toNatClampNeg < 1000) (hm : m = nI ((m).toNatClampNeg)) (h1 : (m).toNatClampNeg < 16) : hdI k t m &&& 15 = m := by
  unfold hdI
  rw [pk_andN (by omega) 4 (by decide)]
  rw [show ((k).toNatClampNeg * 16384 + (t).toNatClampNeg * 16 + (m).toNatClampNeg) % 2 ^ 4 = (m).toNatClampNeg by omega, ← hm]
theorem or_nI (a b k : Nat) (hb : b < 2 ^ k) (h : a * 2 ^ k + b < 2 ^ 32) : nI (a * 2 ^ k) ||| nI b = nI (a * 2 ^ k + b) := by
  have e : a * 2 ^ k ||| b = a * 2 ^ k + b := by
    rw [Nat.mul_comm]; exact (Nat.two_pow_add_eq_or_of_lt hb a).symm
  apply Int32.toBitVec_inj.mp
  apply BitVec.eq_of_toNat_eq
  rw [Int32.toBitVec_or, BitVec.toNat_or, pk_tn (by omega), pk_tn (by omega), pk_tn (by omega), e]
theorem hd_make {k t m : Int32} (hk : k = nI ((k).toNatClampNeg)) (h0 : (k).toNatClampNeg < 3) (ht : t = nI ((t).toNatClampNeg)) (h1 : (t).toNatClampNeg < 1000) (hm : m = nI ((m).toNatClampNeg)) (h2 : (m).toNatClampNeg < 16) : ((((k <<< (10 &&& 31)) ||| t) <<< (4 &&& 31)) ||| m) = hdI k t m := by
  rw [hk, ht, hm]
  have c1 := cl (n := (k).toNatClampNeg) (by omega)
  have c2 := cl (n := (t).toNatClampNeg) (by omega)
  have c3 := cl (n := (m).toNatClampNeg) (by omega)
  unfold hdI
  rw [c1, c2, c3]
  rw [show ((10 : Int32) &&& 31) = 10 from rfl, show ((4 : Int32) &&& 31) = 4 from rfl, pk_shlN 10 10 (by decide) (by omega), or_nI ((k).toNatClampNeg) ((t).toNatClampNeg) 10 (by omega) (by omega), pk_shlN 4 4 (by decide) (by omega), or_nI _ ((m).toNatClampNeg) 4 (by omega) (by omega)]
  congr 1; omega
