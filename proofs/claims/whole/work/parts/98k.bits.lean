theorem sh_amt {j : Nat} (h : j < 64) : (((nI j).toInt64 &&& 63).toBitVec.smod 64) = BitVec.ofNat 64 j := by
  have : ∀ j : Fin 64, (((nI j).toInt64 &&& 63).toBitVec.smod 64) = BitVec.ofNat 64 j := by decide
  exact this ⟨j, h⟩
theorem bt_get (x : Int64) {j : Nat} (h : j < 64) : ((x >>> ((nI j).toInt64 &&& 63)) &&& 1) = 0 ↔ x.toBitVec.getLsbD j = false := by
  constructor
  · intro e
    have e' := congrArg (fun y : Int64 => y.toBitVec.getLsbD 0) e
    rw [Int64.toBitVec_and, Int64.toBitVec_shiftRight, sh_amt h, BitVec.getLsbD_and, BitVec.sshiftRight_eq', BitVec.getLsbD_sshiftRight] at e'
    simp [Nat.mod_eq_of_lt (show j < 2^64 by omega), h] at e'
    exact e'
  · intro e
    apply Int64.toBitVec_inj.mp
    apply BitVec.eq_of_getLsbD_eq
    intro i hi
    rw [Int64.toBitVec_and, Int64.toBitVec_shiftRight, sh_amt h, BitVec.getLsbD_and, BitVec.sshiftRight_eq', BitVec.getLsbD_sshiftRight]
    by_cases i0 : i = 0
    · subst i0
      have e' : x.toBitVec[j] = false := by rw [← BitVec.getLsbD_eq_getElem h]; exact e
      simp [Nat.mod_eq_of_lt (show j < 2^64 by omega), h, e']
    · have : (1 : Int64).toBitVec.getLsbD i = false := by
        show (1#64).getLsbD i = false
        rw [BitVec.getLsbD_one]; simp; omega
      rw [this]; simp
theorem bt_set (x : Int64) {j : Nat} (h : j < 64) (i : Nat) (hi : i < 64) : (x ||| (1 <<< ((nI j).toInt64 &&& 63))).toBitVec.getLsbD i = (x.toBitVec.getLsbD i || decide (i = j)) := by
  rw [Int64.toBitVec_or, Int64.toBitVec_shiftLeft, sh_amt h, BitVec.getLsbD_or, BitVec.shiftLeft_eq', BitVec.getLsbD_shiftLeft]
  congr 1
  have : (1 : Int64).toBitVec = 1#64 := rfl
  rw [this, BitVec.getLsbD_one]
  simp [Nat.mod_eq_of_lt (show j < 2^64 by omega), hi]
  rw [Bool.eq_iff_iff]
  simp
  omega
def bis (B : Nat → Prop) (mn : Nat → Nat) (hd : Nat → Int32) (fs fw : Nat → Nat → Int32) (fv : Nat → Nat → Nat) (Rel : Nat → Nat → Prop) : Prop := ∀ o q, Rel o q → B o ∧ B q ∧ hd o = hd q ∧ ∀ i, i < mn o → fs o i = fs q i ∧ (fs o i = 2 → Rel (fv o i) (fv q i)) ∧ (¬ fs o i = 2 → fw o i = fw q i)
def AL (B : Nat → Prop) (mn : Nat → Nat) (hd : Nat → Int32) (fs fw : Nat → Nat → Int32) (fv : Nat → Nat → Nat) (sa sb va vb : Int32) (ua ub : Nat) : Prop := sa = sb ∧ (sa = 2 → ∃ Rel, bis B mn hd fs fw fv Rel ∧ Rel ua ub) ∧ (¬ sa = 2 → va = vb)
def UF (ld : Nat → Int32) (rp dp : Nat → Nat) (k : Nat) : Prop := (∀ p, p < 640 → ∃ q, q < 640 ∧ ld p = nI q ∧ rp q = rp p ∧ (q = p → rp p = p ∧ dp p = 0) ∧ (q ≠ p → dp q < dp p) ∧ dp p ≤ k ∧ rp p < 640 ∧ ld (rp p) = nI (rp p)) ∧ cnt (fun p => ld p = nI p) 640 + k = 640
theorem UF_root {ld : Nat → Int32} {rp dp : Nat → Nat} {k : Nat} (h : UF ld rp dp k) {p : Nat} (hp : p < 640) : rp p < 640 ∧ rp (rp p) = rp p ∧ ld (rp p) = nI (rp p) := by
  obtain ⟨q, q1, q2, q3, q4, q5, q6, q7, q8⟩ := h.1 p hp
  obtain ⟨z, z1, z2, z3, z4, _⟩ := h.1 (rp p) q7
  rw [q8] at z2
  have := (nI_eq (by omega) (by omega)).mp z2
  exact ⟨q7, (z4 this.symm).1, q8⟩
theorem e_last {σ : xS} {ld : Nat → Int32} {rp dp : Nat → Nat} {k x : Nat} (hU : UF ld rp dp k) (hk : k < 640) (hx : x < 640) (Q : Int32 → xS → Prop) (h : ∀ ld', UF ld' rp dp k → Q (nI (rp x)) (va_up σ 14 ld')) : p_Lik_lastLeader (nI x) (va_up σ 14 ld) Q := by
  unfold p_Lik_lastLeader
  refine lpS (S := Nat × (Nat → Int32)) (fun f s y => p_Lik_lastLeader_L4 Q f (nI y.1) (nI s) (va_up σ 14 y.2)) (fun s y => UF y.2 rp dp k ∧ y.1 < 640 ∧ rp y.1 = rp x ∧ dp y.1 + s ≤ k) 640 ?_ ?_ (s := (x, ld)) ⟨hU, hx, rfl, ?_⟩
  · rintro f s ⟨y, l⟩ hs ⟨i1, i2, i3, i4⟩ hn
    dsimp only at i1 i2 i3 i4 hn ⊢
    show b_Lik_lastLeader_L4 (p_Lik_lastLeader_L4 Q f) Q (nI y) (nI s) _
    unfold b_Lik_lastLeader_L4
    have l1 : ¬ 640 ≤ s := by omega
    obtain ⟨q, q1, q2, q3, q4, q5, q6, q7, q8⟩ := i1.1 y i2
    obtain ⟨z, z1, z2, z3, z4, z5, z6, z7, z8⟩ := i1.1 q q1
    by_cases e : q = y
    · have hh := h l i1
      rw [← i3, (q4 e).1] at hh
      rw [e] at q2
      simp (disch := omega) only [forall_eq, true_and, and_true, and_self, not_true_eq_false, not_false_eq_true, false_imp_iff, true_imp_iff, imp_self, implies_true, ne_eq, reduceIte, cl, cl0, cl1, cl2, vpn, vp0, le8, le16, le40, le640, le1400, le6400, lt8, lt16, le15, le2, nI_leI, nI_ltI, nI_eq, nI_1, nI_add, n_le0, n_lt0, n_0le, n_eq0, n_eq1, n_eq2, n_m1, n_m1r, Nat.reduceEqDiff, Nat.reduceAdd, Int32.add_zero, nI_pred, div16, mul15, mul40, mul16, mul640, mulr16, xu_s, xu_c, xu_k, xu_cc, rows_xu, xf_s, xf_c, rows_xf, xul_c, rows_xul, xul_L, lgc, l1, q2]
      exact hh
    · have dq := q5 e
      have hzy : z ≠ y := fun w => by
        by_cases zq : z = q
        · omega
        · have := z5 zq; rw [w] at this; omega
      have dz : dp z < dp y := by
        by_cases zq : z = q
        · rw [zq]; exact dq
        · have := z5 zq; omega
      simp (disch := omega) only [forall_eq, true_and, and_true, and_self, not_true_eq_false, not_false_eq_true, false_imp_iff, true_imp_iff, imp_self, implies_true, ne_eq, reduceIte, cl, cl0, cl1, cl2, vpn, vp0, le8, le16, le40, le640, le1400, le6400, lt8, lt16, le15, le2, nI_leI, nI_ltI, nI_eq, nI_1, nI_add, n_le0, n_lt0, n_0le, n_eq0, n_eq1, n_eq2, n_m1, n_m1r, Nat.reduceEqDiff, Nat.reduceAdd, Int32.add_zero, nI_pred, div16, mul15, mul40, mul16, mul640, mulr16, xu_s, xu_c, xu_k, xu_cc, rows_xu, xf_s, xf_c, rows_xf, xul_c, rows_xul, xul_L, lgc, l1, q2, e, z2, xu_xf]
      refine hn (z, upd l y (nI z)) ⟨⟨fun p hp => ?_, ?_⟩, z1, by dsimp only; rw [z3, q3]; exact i3, by dsimp only; omega⟩
      · dsimp only
        obtain ⟨p', p1, p2, p3, p4, p5, p6, p7, p8⟩ := i1.1 p hp
        have hry : rp p ≠ y := fun w => by
          rw [w] at p8
          rw [q2] at p8
          exact e ((nI_eq (by omega) (by omega)).mp p8)
        by_cases ep : p = y
        · subst ep
          refine ⟨z, z1, by rw [upd_s], by rw [z3, q3], fun w => absurd w hzy, fun _ => dz, p6, p7, by rw [upd_n _ _ hry]; exact p8⟩
        · exact ⟨p', p1, by rw [upd_n _ _ ep]; exact p2, p3, p4, p5, p6, p7, by rw [upd_n _ _ hry]; exact p8⟩
      · dsimp only
        have ec : cnt (fun p => upd l y (nI z) p = nI p) 640 = cnt (fun p => l p = nI p) 640 := cnt_iff (fun p hp => ?_)
        · rw [ec]; exact i1.2
        by_cases ep : p = y
        · rw [ep, upd_s, q2, nI_eq (by omega) (by omega), nI_eq (by omega) (by omega)]
          exact ⟨fun w => absurd w hzy, fun w => absurd w e⟩
        · rw [upd_n _ _ ep]
  · rintro f ⟨y, l⟩ ⟨i1, i2, i3, i4⟩
    dsimp only at i4
    omega
  · obtain ⟨q, q1, q2, q3, q4, q5, q6, _⟩ := hU.1 x hx
    exact q6
