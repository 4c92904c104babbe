/-- the store: cell, place, number -/
abbrev xS : Type := Nat → Nat → Int32
/-- classes and slots; classes of arrays (ints, booleans, longs, rows of ints); addresses of the cells -/
abbrev xV : Type := va_G × (Nat → ClassId) × (Nat → Nat)
/-- a long lies in two places -/
def xL (f : Nat → Int32) (j : Nat) : Int64 := Int64.ofInt ((f (2 * j + 1)).toInt * 4294967296 + (f (2 * j)).toInt % 4294967296)
def xlo (x : Int64) : Int32 := Int32.ofInt x.toInt
def xhi (x : Int64) : Int32 := Int32.ofInt (x.toInt / 4294967296)
theorem xL_mk (x : Int64) : Int64.ofInt ((xhi x).toInt * 4294967296 + (xlo x).toInt % 4294967296) = x := by
  have h1 := Int64.le_toInt x
  have h2 := Int64.toInt_lt x
  have e1 : (xhi x).toInt = x.toInt / 4294967296 := by
    unfold xhi
    rw [Int32.toInt_ofInt]
    show Int.bmod (x.toInt / 4294967296) 4294967296 = _
    rw [Int.bmod_eq_of_le] <;> omega
  have e2 : (xlo x).toInt % 4294967296 = x.toInt % 4294967296 := by
    unfold xlo
    rw [Int32.toInt_ofInt]
    have : (x.toInt.bmod Int32.size) % (Int32.size : Nat) = x.toInt % (Int32.size : Nat) := Int.bmod_emod
    exact this
  rw [e1, e2, show x.toInt / 4294967296 * 4294967296 + x.toInt % 4294967296 = x.toInt by omega]
  exact Int64.ofInt_toInt x

/-- what each cell is -/
def xE (V : xV) (c : Nat) (f : Nat → Int32) : va_E := match c with
  | 0 => .inr (0, [.ref (V.2.2 1), .ref (V.2.2 2), .ref (V.2.2 3), .ref (V.2.2 4), .int (f 4), .int (f 5)])
  | 1 => .inr (1, [.ref (V.2.2 5), .ref (V.2.2 6), .ref (V.2.2 7), .ref (V.2.2 8), .ref (V.2.2 9), .ref (V.2.2 10)])
  | 2 => .inr (2, [.ref (V.2.2 1), .ref (V.2.2 11), .int (f 2), .int (f 3), .int (f 4)])
  | 3 => .inr (3, [.ref (V.2.2 1), .ref (V.2.2 12), .ref (V.2.2 13), .int (f 3)])
  | 4 => .inr (4, [.ref (V.2.2 6), .ref (V.2.2 14), .ref (V.2.2 15), .ref (V.2.2 16), .int (f 4)])
  | 5 => .inr (5, [.ref (V.2.2 17), .ref (V.2.2 18)])
  | 6 => .inr (6, [.ref (V.2.2 19)])
  | 7 => .inr (7, [.ref (V.2.2 20), .ref (V.2.2 21), .ref (V.2.2 22), .ref (V.2.2 23), .int (f 4)])
  | 8 => .inr (8, [.ref (V.2.2 24), .int (f 1)])
  | 9 => .inr (8, [.ref (V.2.2 25), .int (f 1)])
  | 10 => .inl (V.2.1 0, 640, .inl f)
  | 11 => .inr (9, [.ref (V.2.2 1), .ref (V.2.2 26), .ref (V.2.2 27), .int (f 3)])
  | 12 => .inl (V.2.1 0, 640, .inl f)
  | 13 => .inl (V.2.1 1, 640, .inl f)
  | 14 => .inl (V.2.1 0, 640, .inl f)
  | 15 => .inl (V.2.1 0, 640, .inl f)
  | 16 => .inl (V.2.1 0, 640, .inl f)
  | 17 => .inl (V.2.1 0, 16, .inl f)
  | 18 => .inl (V.2.1 0, 16, .inl f)
  | 19 => .inr (5, [.ref (V.2.2 28), .ref (V.2.2 29)])
  | 20 => .inl (V.2.1 0, 40, .inl f)
  | 21 => .inl (V.2.1 3, 8, .inr (.inr (.inr (.inr (fun i => if i < 8 then some (V.2.2 (32 + i)) else none)))))
  | 22 => .inl (V.2.1 0, 8, .inl f)
  | 23 => .inl (V.2.1 0, 8, .inl f)
  | 24 => .inl (V.2.1 0, 640, .inl f)
  | 25 => .inl (V.2.1 0, 640, .inl f)
  | 26 => .inl (V.2.1 1, 640, .inl f)
  | 27 => .inl (V.2.1 0, 640, .inl f)
  | 28 => .inl (V.2.1 0, 640, .inl f)
  | 29 => .inl (V.2.1 0, 640, .inl f)
  | 30 => .inl (V.2.1 2, 1, .inr (.inl (xL f)))
  | 31 => .inr (10, [.int (f 0), .ref (V.2.2 40), .ref (V.2.2 41), .ref (V.2.2 42), .ref (V.2.2 43), .ref (V.2.2 44), .ref (V.2.2 45), .ref (V.2.2 46), .ref (V.2.2 47), .ref (V.2.2 48), .int (f 10), .ref (V.2.2 49), .ref (V.2.2 50), .int (f 13), .ref (V.2.2 51), .ref (V.2.2 52), .ref (V.2.2 53), .ref (V.2.2 54), .ref (V.2.2 55), .int (f 19), .ref (V.2.2 56), .int (f 21), .int (f 22), .int (f 23), .int (f 24), .int (f 25), .int (f 26), .ref (V.2.2 57), .ref (V.2.2 58), .ref (V.2.2 59), .ref (V.2.2 60), .int (f 31)])
  | 32 => .inl (V.2.1 0, 40, .inl f)
  | 33 => .inl (V.2.1 0, 40, .inl f)
  | 34 => .inl (V.2.1 0, 40, .inl f)
  | 35 => .inl (V.2.1 0, 40, .inl f)
  | 36 => .inl (V.2.1 0, 40, .inl f)
  | 37 => .inl (V.2.1 0, 40, .inl f)
  | 38 => .inl (V.2.1 0, 40, .inl f)
  | 39 => .inl (V.2.1 0, 40, .inl f)
  | 40 => .inl (V.2.1 0, 640, .inl f)
  | 41 => .inl (V.2.1 0, 640, .inl f)
  | 42 => .inl (V.2.1 0, 640, .inl f)
  | 43 => .inl (V.2.1 0, 640, .inl f)
  | 44 => .inl (V.2.1 0, 640, .inl f)
  | 45 => .inl (V.2.1 0, 640, .inl f)
  | 46 => .inl (V.2.1 0, 9600, .inl f)
  | 47 => .inl (V.2.1 0, 9600, .inl f)
  | 48 => .inl (V.2.1 1, 640, .inl f)
  | 49 => .inl (V.2.1 0, 640, .inl f)
  | 50 => .inl (V.2.1 1, 40, .inl f)
  | 51 => .inl (V.2.1 0, 8, .inl f)
  | 52 => .inl (V.2.1 0, 320, .inl f)
  | 53 => .inl (V.2.1 0, 8, .inl f)
  | 54 => .inl (V.2.1 0, 16, .inl f)
  | 55 => .inl (V.2.1 0, 16, .inl f)
  | 56 => .inl (V.2.1 0, 1400, .inl f)
  | 57 => .inl (V.2.1 0, 640, .inl f)
  | 58 => .inl (V.2.1 0, 640, .inl f)
  | 59 => .inl (V.2.1 2, 6400, .inr (.inl (xL f)))
  | 60 => .inl (V.2.1 0, 409600, .inl f)
  | _ => .inr (99, [])
theorem xE0 (V : xV) (f : Nat → Int32) : xE V 0 f = .inr (0, [.ref (V.2.2 1), .ref (V.2.2 2), .ref (V.2.2 3), .ref (V.2.2 4), .int (f 4), .int (f 5)]) := rfl
theorem xE1 (V : xV) (f : Nat → Int32) : xE V 1 f = .inr (1, [.ref (V.2.2 5), .ref (V.2.2 6), .ref (V.2.2 7), .ref (V.2.2 8), .ref (V.2.2 9), .ref (V.2.2 10)]) := rfl
theorem xE2 (V : xV) (f : Nat → Int32) : xE V 2 f = .inr (2, [.ref (V.2.2 1), .ref (V.2.2 11), .int (f 2), .int (f 3), .int (f 4)]) := rfl
theorem xE3 (V : xV) (f : Nat → Int32) : xE V 3 f = .inr (3, [.ref (V.2.2 1), .ref (V.2.2 12), .ref (V.2.2 13), .int (f 3)]) := rfl
theorem xE4 (V : xV) (f : Nat → Int32) : xE V 4 f = .inr (4, [.ref (V.2.2 6), .ref (V.2.2 14), .ref (V.2.2 15), .ref (V.2.2 16), .int (f 4)]) := rfl
theorem xE5 (V : xV) (f : Nat → Int32) : xE V 5 f = .inr (5, [.ref (V.2.2 17), .ref (V.2.2 18)]) := rfl
theorem xE6 (V : xV) (f : Nat → Int32) : xE V 6 f = .inr (6, [.ref (V.2.2 19)]) := rfl
theorem xE7 (V : xV) (f : Nat → Int32) : xE V 7 f = .inr (7, [.ref (V.2.2 20), .ref (V.2.2 21), .ref (V.2.2 22), .ref (V.2.2 23), .int (f 4)]) := rfl
theorem xE8 (V : xV) (f : Nat → Int32) : xE V 8 f = .inr (8, [.ref (V.2.2 24), .int (f 1)]) := rfl
theorem xE9 (V : xV) (f : Nat → Int32) : xE V 9 f = .inr (8, [.ref (V.2.2 25), .int (f 1)]) := rfl
theorem xE10 (V : xV) (f : Nat → Int32) : xE V 10 f = .inl (V.2.1 0, 640, .inl f) := rfl
theorem xE11 (V : xV) (f : Nat → Int32) : xE V 11 f = .inr (9, [.ref (V.2.2 1), .ref (V.2.2 26), .ref (V.2.2 27), .int (f 3)]) := rfl
theorem xE12 (V : xV) (f : Nat → Int32) : xE V 12 f = .inl (V.2.1 0, 640, .inl f) := rfl
theorem xE13 (V : xV) (f : Nat → Int32) : xE V 13 f = .inl (V.2.1 1, 640, .inl f) := rfl
theorem xE14 (V : xV) (f : Nat → Int32) : xE V 14 f = .inl (V.2.1 0, 640, .inl f) := rfl
theorem xE15 (V : xV) (f : Nat → Int32) : xE V 15 f = .inl (V.2.1 0, 640, .inl f) := rfl
theorem xE16 (V : xV) (f : Nat → Int32) : xE V 16 f = .inl (V.2.1 0, 640, .inl f) := rfl
theorem xE17 (V : xV) (f : Nat → Int32) : xE V 17 f = .inl (V.2.1 0, 16, .inl f) := rfl
theorem xE18 (V : xV) (f : Nat → Int32) : xE V 18 f = .inl (V.2.1 0, 16, .inl f) := rfl
theorem xE19 (V : xV) (f : Nat → Int32) : xE V 19 f = .inr (5, [.ref (V.2.2 28), .ref (V.2.2 29)]) := rfl
theorem xE20 (V : xV) (f : Nat → Int32) : xE V 20 f = .inl (V.2.1 0, 40, .inl f) := rfl
theorem xE21 (V : xV) (f : Nat → Int32) : xE V 21 f = .inl (V.2.1 3, 8, .inr (.inr (.inr (.inr (fun i => if i < 8 then some (V.2.2 (32 + i)) else none))))) := rfl
theorem xE22 (V : xV) (f : Nat → Int32) : xE V 22 f = .inl (V.2.1 0, 8, .inl f) := rfl
theorem xE23 (V : xV) (f : Nat → Int32) : xE V 23 f = .inl (V.2.1 0, 8, .inl f) := rfl
theorem xE24 (V : xV) (f : Nat → Int32) : xE V 24 f = .inl (V.2.1 0, 640, .inl f) := rfl
theorem xE25 (V : xV) (f : Nat → Int32) : xE V 25 f = .inl (V.2.1 0, 640, .inl f) := rfl
theorem xE26 (V : xV) (f : Nat → Int32) : xE V 26 f = .inl (V.2.1 1, 640, .inl f) := rfl
theorem xE27 (V : xV) (f : Nat → Int32) : xE V 27 f = .inl (V.2.1 0, 640, .inl f) := rfl
theorem xE28 (V : xV) (f : Nat → Int32) : xE V 28 f = .inl (V.2.1 0, 640, .inl f) := rfl
theorem xE29 (V : xV) (f : Nat → Int32) : xE V 29 f = .inl (V.2.1 0, 640, .inl f) := rfl
theorem xE30 (V : xV) (f : Nat → Int32) : xE V 30 f = .inl (V.2.1 2, 1, .inr (.inl (xL f))) := rfl
theorem xE31 (V : xV) (f : Nat → Int32) : xE V 31 f = .inr (10, [.int (f 0), .ref (V.2.2 40), .ref (V.2.2 41), .ref (V.2.2 42), .ref (V.2.2 43), .ref (V.2.2 44), .ref (V.2.2 45), .ref (V.2.2 46), .ref (V.2.2 47), .ref (V.2.2 48), .int (f 10), .ref (V.2.2 49), .ref (V.2.2 50), .int (f 13), .ref (V.2.2 51), .ref (V.2.2 52), .ref (V.2.2 53), .ref (V.2.2 54), .ref (V.2.2 55), .int (f 19), .ref (V.2.2 56), .int (f 21), .int (f 22), .int (f 23), .int (f 24), .int (f 25), .int (f 26), .ref (V.2.2 57), .ref (V.2.2 58), .ref (V.2.2 59), .ref (V.2.2 60), .int (f 31)]) := rfl
theorem xE32 (V : xV) (f : Nat → Int32) : xE V 32 f = .inl (V.2.1 0, 40, .inl f) := rfl
theorem xE33 (V : xV) (f : Nat → Int32) : xE V 33 f = .inl (V.2.1 0, 40, .inl f) := rfl
theorem xE34 (V : xV) (f : Nat → Int32) : xE V 34 f = .inl (V.2.1 0, 40, .inl f) := rfl
theorem xE35 (V : xV) (f : Nat → Int32) : xE V 35 f = .inl (V.2.1 0, 40, .inl f) := rfl
theorem xE36 (V : xV) (f : Nat → Int32) : xE V 36 f = .inl (V.2.1 0, 40, .inl f) := rfl
theorem xE37 (V : xV) (f : Nat → Int32) : xE V 37 f = .inl (V.2.1 0, 40, .inl f) := rfl
theorem xE38 (V : xV) (f : Nat → Int32) : xE V 38 f = .inl (V.2.1 0, 40, .inl f) := rfl
theorem xE39 (V : xV) (f : Nat → Int32) : xE V 39 f = .inl (V.2.1 0, 40, .inl f) := rfl
theorem xE40 (V : xV) (f : Nat → Int32) : xE V 40 f = .inl (V.2.1 0, 640, .inl f) := rfl
theorem xE41 (V : xV) (f : Nat → Int32) : xE V 41 f = .inl (V.2.1 0, 640, .inl f) := rfl
theorem xE42 (V : xV) (f : Nat → Int32) : xE V 42 f = .inl (V.2.1 0, 640, .inl f) := rfl
theorem xE43 (V : xV) (f : Nat → Int32) : xE V 43 f = .inl (V.2.1 0, 640, .inl f) := rfl
theorem xE44 (V : xV) (f : Nat → Int32) : xE V 44 f = .inl (V.2.1 0, 640, .inl f) := rfl
theorem xE45 (V : xV) (f : Nat → Int32) : xE V 45 f = .inl (V.2.1 0, 640, .inl f) := rfl
theorem xE46 (V : xV) (f : Nat → Int32) : xE V 46 f = .inl (V.2.1 0, 9600, .inl f) := rfl
theorem xE47 (V : xV) (f : Nat → Int32) : xE V 47 f = .inl (V.2.1 0, 9600, .inl f) := rfl
theorem xE48 (V : xV) (f : Nat → Int32) : xE V 48 f = .inl (V.2.1 1, 640, .inl f) := rfl
theorem xE49 (V : xV) (f : Nat → Int32) : xE V 49 f = .inl (V.2.1 0, 640, .inl f) := rfl
theorem xE50 (V : xV) (f : Nat → Int32) : xE V 50 f = .inl (V.2.1 1, 40, .inl f) := rfl
theorem xE51 (V : xV) (f : Nat → Int32) : xE V 51 f = .inl (V.2.1 0, 8, .inl f) := rfl
theorem xE52 (V : xV) (f : Nat → Int32) : xE V 52 f = .inl (V.2.1 0, 320, .inl f) := rfl
theorem xE53 (V : xV) (f : Nat → Int32) : xE V 53 f = .inl (V.2.1 0, 8, .inl f) := rfl
theorem xE54 (V : xV) (f : Nat → Int32) : xE V 54 f = .inl (V.2.1 0, 16, .inl f) := rfl
theorem xE55 (V : xV) (f : Nat → Int32) : xE V 55 f = .inl (V.2.1 0, 16, .inl f) := rfl
theorem xE56 (V : xV) (f : Nat → Int32) : xE V 56 f = .inl (V.2.1 0, 1400, .inl f) := rfl
theorem xE57 (V : xV) (f : Nat → Int32) : xE V 57 f = .inl (V.2.1 0, 640, .inl f) := rfl
theorem xE58 (V : xV) (f : Nat → Int32) : xE V 58 f = .inl (V.2.1 0, 640, .inl f) := rfl
theorem xE59 (V : xV) (f : Nat → Int32) : xE V 59 f = .inl (V.2.1 2, 6400, .inr (.inl (xL f))) := rfl
theorem xE60 (V : xV) (f : Nat → Int32) : xE V 60 f = .inl (V.2.1 0, 409600, .inl f) := rfl
def xu (σ : xS) (c k : Nat) (v : Int32) : xS := va_up σ c (upd (σ c) k v)
/-- a long is written -/
def xul (σ : xS) (c k : Nat) (x : Int64) : xS := va_up σ c (upd (upd (σ c) (2 * k) (xlo x)) (2 * k + 1) (xhi x))
theorem xu_eq (σ : xS) (c k : Nat) (v : Int32) (d j : Nat) : xu σ c k v d j = if d = c then (if j = k then v else σ c j) else σ d j := by
  unfold xu va_up upd
  by_cases h : d = c <;> simp [h]
theorem xL_up (f : Nat → Int32) (k : Nat) (x : Int64) : xL (upd (upd f (2 * k) (xlo x)) (2 * k + 1) (xhi x)) = vp_updL (xL f) k x := by
  funext j
  unfold xL vp_updL upd
  by_cases h : j = k
  · subst h
    simp only [if_true, if_neg (show ¬ 2 * j = 2 * j + 1 by omega)]
    exact xL_mk x
  · simp only [if_neg h, if_neg (show ¬ 2 * j + 1 = 2 * k + 1 by omega), if_neg (show ¬ 2 * j + 1 = 2 * k by omega), if_neg (show ¬ 2 * j = 2 * k + 1 by omega), if_neg (show ¬ 2 * j = 2 * k by omega)]
def xw (V : xV) (σ : xS) : va_W := (List.range 61).map (fun c => (V.2.2 c, xE V c (σ c)))
theorem xw_get {V : xV} {σ : xS} {c : Nat} (h : c < 61) : (xw V σ)[c]? = some (V.2.2 c, xE V c (σ c)) := by
  simp [xw, h]
theorem xw_none {V : xV} {σ : xS} {c : Nat} (h : ¬ c < 61) : (xw V σ)[c]? = none := by
  simp [xw]; omega
theorem xw_lt {V : xV} {σ : xS} {c : Nat} {q : Nat × va_E} (h : (xw V σ)[c]? = some q) : c < 61 := by
  by_cases hl : c < 61
  · exact hl
  · rw [xw_none hl] at h; cases h
theorem xw_set {V : xV} {σ : xS} {c : Nat} (hc : c < 61) (g : Nat → Int32) : (xw V σ).set c (V.2.2 c, xE V c g) = xw V (va_up σ c g) := by
  refine List.ext_getElem? (fun i => ?_)
  by_cases hi : i = c
  · subst hi
    rw [List.getElem?_set_self (by simp [xw, hc]), xw_get hc, va_up_self]
  · rw [List.getElem?_set_ne (Ne.symm hi)]
    by_cases hl : i < 61
    · rw [xw_get hl, xw_get hl, va_up_ne _ _ hi]
    · rw [xw_none hl, xw_none hl]
/-- which cells a method may change -/
def xA (V : xV) (sz : Nat) : Nat → Prop := fun q => (∃ c, c < 61 ∧ q = V.2.2 c) ∨ sz ≤ q
abbrev xty (V : xV) : List (ClassId × FieldType) := [(V.2.1 0, .int), (V.2.1 1, .boolean), (V.2.1 2, .long), (V.2.1 3, .array .int)]
abbrev xnest : Cond := .fieldLinkNest "RegionPool$Heap" 30 "RegionPool$Values" "contents" "[I" "RegionPool"
/-- what the tables say -/
def xK (V : xV) (U : State) : Prop := va_K V.1 xcl (xty V) U ∧ va_Nw xnest U
theorem xK.moved {V : xV} {s U : State} (hW : s.WarmedH U.vm) (h : xK V s) : xK V U := ⟨va_K.moved hW.alike h.1, va_Nw.warmF hW h.2⟩
theorem xK.same {V : xV} {s U : State} (hv : s.vm = U.vm) (h : xK V s) : xK V U := ⟨va_K.moved (by rw [hv]; exact Vm.Alike.refl U.vm) h.1, va_Nw.same rfl hv h.2⟩
def xPre (V : xV) (sz : Nat) (σ : xS) (U : State) : Prop := U.heap.size = sz ∧ va_P V.1 xcl (xw V σ) U.heap ∧ va_D (fun _ => True) (xw V σ) ∧ xK V U
def xPost (V : xV) (u : xS) (t : State) : Prop := va_P V.1 xcl (xw V u) t.heap
theorem xBlind {V : xV} {sz : Nat} {σ : xS} {av : List Value} : FrameBlind (va_Pc av (xPre V sz σ)) := fun a U g mk q => by
  obtain ⟨q0, q1, q2, q3, q4⟩ := q
  exact ⟨q0, q1, q2, q3, q4.same rfl⟩
/-- contracts: an int, nothing -/
def xMi (l : Launch) (y : MethodName) (ws : List Cond) (rm : Room) (V : xV) (av : List Value) (σ : xS) (Q : Int32 → xS → Prop) : Prop :=
  ∀ sz : Nat, Met l y ws rm (va_Pc av (xPre V sz σ)) (va_Qi Q (xPost V) (xA V sz)) 0 0 (xA V sz)
def xMv (l : Launch) (y : MethodName) (ws : List Cond) (rm : Room) (V : xV) (av : List Value) (σ : xS) (Q : xS → Prop) : Prop :=
  ∀ sz : Nat, Met l y ws rm (va_Pc av (xPre V sz σ)) (va_Qv Q (xPost V) (xA V sz)) 0 0 (xA V sz)
/-- inside a method: the world now -/
def xI (V : xV) (H0 : Heap) (σ : xS) (H : Heap) (locs : List Loc) : Prop := va_P V.1 xcl (xw V σ) H ∧ va_D (xA V H0.size) (xw V σ) ∧ va_S (xA V H0.size) H0 H locs
/-- inside a method: what stays -/
def xC (p : Program) (s : State) (m : MethodId) (args : Array Value) (c : Code) (cc : ByteArray) (nL : Nat) (own : String) (V : xV) : Prop :=
  p.tables.exec = Jvm.exec ∧ c.code = cc ∧ c.maxLocals = nL ∧ s.vm.findClass own = some m.cls ∧ (∀ w ∈ xG, w.before args s = true) ∧ xK V s
abbrev xZi (below : List Frame) (V : xV) (args : Array Value) (s : State) (Q : Int32 → xS → Prop) : State → Prop := MQ below (va_Qi Q (xPost V) (xA V s.heap.size)) args s 0 0 (xA V s.heap.size)
abbrev xZv (below : List Frame) (V : xV) (args : Array Value) (s : State) (Q : xS → Prop) : State → Prop := MQ below (va_Qv Q (xPost V) (xA V s.heap.size)) args s 0 0 (xA V s.heap.size)
theorem xD_self {V : xV} {sz : Nat} {σ : xS} {A : Nat → Prop} (h : va_D A (xw V σ)) : va_D (xA V sz) (xw V σ) := ⟨h.1, fun k q hk => by
  have hl := xw_lt hk
  rw [xw_get hl] at hk
  cases hk
  exact Or.inl ⟨k, hl, rfl⟩⟩
theorem xD_any {V : xV} {σ τ : xS} {A : Nat → Prop} (h : va_D A (xw V σ)) : va_D A (xw V τ) := by
  refine ⟨fun i j p q hi hj e => ?_, fun k q hk => ?_⟩
  · have h1 := xw_lt hi
    have h2 := xw_lt hj
    rw [xw_get h1] at hi
    rw [xw_get h2] at hj
    cases hi; cases hj
    exact h.1 i j _ _ (xw_get h1) (xw_get h2) e
  · have h1 := xw_lt hk
    rw [xw_get h1] at hk
    cases hk
    have h2 := h.2 k _ (xw_get (V := V) (σ := σ) h1)
    exact h2
section XW
variable {p : Program} {l : Launch} {e : Env} {R : Room} {s : State} {m : MethodId} {args : Array Value} {below : List Frame} {meth : Method} {c : Code} {H : Heap} {locs : List Loc} {cells slots : Nat} {Z : State → Prop}
variable {cc : ByteArray} {nL pc : Nat} {own : String} {V : xV} {σ : xS} {ls : Array Slot} {rest : List Value}
theorem x_begini {y : MethodName} {bytes : ByteArray} {maxL : Nat} {ret : Option FieldType} {rm : Room} {av : List Value} {Q : Int32 → xS → Prop} (hy : plainName y.cls = true) (hav : (lg_sl av).length ≤ maxL)
    (body : ∀ (p : Program) (e : Env) (s : State) (m : MethodId) (below : List Frame) (meth : Method) (c : Code) (ls : Array Slot), xC p s m av.toArray c bytes maxL y.cls V → meth.locks = false → meth.sig.returnType = ret → xI V s.heap σ s.heap [] → lv_has ls maxL (lv_args 0 av) →
      W p l e rm s m av.toArray below meth c s.heap [] 0 0 (xZi below V av.toArray s Q) (F0 m 0 ls [])) : xMi l y (.code y bytes maxL ret :: xG) rm V av σ Q := by
  intro sz
  refine Met.ofW (cc := bytes) (maxL := maxL) (ret := ret) hy rfl ?_
  intro p e s m args below meth c s₁ B hml hv
  obtain ⟨rfl, hsz, hP, hD, hK⟩ := hv
  subst hsz
  have hts := atoms_spec (ws := .code y bytes maxL ret :: xG) B.pre
  have hl := lv_entry av (n := maxL) hav
  rw [lg_entry_eq]
  exact body p e s m below meth c _ ⟨B.exec, B.bytes, hml, findClass_of_methodNamed B.named, fun w h => hts w (List.mem_cons_of_mem _ h), hK⟩ B.notSynchronized B.returns ⟨hP, xD_self hD, va_S.rf⟩ hl
theorem x_beginv {y : MethodName} {bytes : ByteArray} {maxL : Nat} {ret : Option FieldType} {rm : Room} {av : List Value} {Q : xS → Prop} (hy : plainName y.cls = true) (hav : (lg_sl av).length ≤ maxL)
    (body : ∀ (p : Program) (e : Env) (s : State) (m : MethodId) (below : List Frame) (meth : Method) (c : Code) (ls : Array Slot), xC p s m av.toArray c bytes maxL y.cls V → meth.locks = false → meth.sig.returnType = ret → xI V s.heap σ s.heap [] → lv_has ls maxL (lv_args 0 av) →
      W p l e rm s m av.toArray below meth c s.heap [] 0 0 (xZv below V av.toArray s Q) (F0 m 0 ls [])) : xMv l y (.code y bytes maxL ret :: xG) rm V av σ Q := by
  intro sz
  refine Met.ofW (cc := bytes) (maxL := maxL) (ret := ret) hy rfl ?_
  intro p e s m args below meth c s₁ B hml hv
  obtain ⟨rfl, hsz, hP, hD, hK⟩ := hv
  subst hsz
  have hts := atoms_spec (ws := .code y bytes maxL ret :: xG) B.pre
  have hl := lv_entry av (n := maxL) hav
  rw [lg_entry_eq]
  exact body p e s m below meth c _ ⟨B.exec, B.bytes, hml, findClass_of_methodNamed B.named, fun w h => hts w (List.mem_cons_of_mem _ h), hK⟩ B.notSynchronized B.returns ⟨hP, xD_self hD, va_S.rf⟩ hl
theorem x_iret {Q : Int32 → xS → Prop} {v : Int32} (C : xC p s m args c cc nL own V) (hlocks : meth.locks = false) (hr : meth.sig.returnType = some .int) (hI : xI V s.heap σ H locs) (hQ : Q v σ) (hdg : decode cc pc = .ok (.ireturn, 1)) : W p l e R s m args below meth c H locs 0 0 (xZi below V args s Q) (F0 m pc ls [.int v]) :=
  W.iret (v := v) C.1 C.2.1 hr (fun t ht _ => ⟨⟨v, σ, rfl, hQ, by unfold xPost; rw [ht]; exact hI.1⟩, hI.2.2.F ht⟩) hI.2.2.2.2 hdg
theorem x_zret {Q : Int32 → xS → Prop} {v : Int32} (C : xC p s m args c cc nL own V) (hlocks : meth.locks = false) (hr : meth.sig.returnType = some .boolean) (hI : xI V s.heap σ H locs) (hQ : narrow .boolean (.int v) = .int v ∧ Q v σ) (hdg : decode cc pc = .ok (.ireturn, 1)) : W p l e R s m args below meth c H locs 0 0 (xZi below V args s Q) (F0 m pc ls [.int v]) :=
  W.zret (v := v) C.1 C.2.1 hr hQ.1 (fun t ht _ => ⟨⟨v, σ, rfl, hQ.2, by unfold xPost; rw [ht]; exact hI.1⟩, hI.2.2.F ht⟩) hI.2.2.2.2 hdg
theorem x_vret {Q : xS → Prop} (C : xC p s m args c cc nL own V) (hlocks : meth.locks = false) (hr : meth.sig.returnType = none) (hI : xI V s.heap σ H locs) (hQ : Q σ) (hdg : decode cc pc = .ok (.return_, 1)) : W p l e R s m args below meth c H locs 0 0 (xZv below V args s Q) (F0 m pc ls []) :=
  W.vret C.1 C.2.1 hr (fun t ht _ => ⟨⟨σ, rfl, hQ, by unfold xPost; rw [ht]; exact hI.1⟩, hI.2.2.F ht⟩) hI.2.2.2.2 hdg
/-- a field of a class, as an instruction of own names it -/
def xFd (own : String) (idx ci k : Nat) : Prop := ∃ (CN : String) (T : u_T) (N : Nat), xcl[ci]? = some (CN, T, N) ∧ (∀ w ∈ u_ws CN T N, w ∈ xG) ∧ k < N ∧ Cond.fieldLink own idx (T k).1 (T k).2.1 (T k).2.2.1 ∈ xG
/-- .. one that holds an int, and may be written -/
def xFw (own : String) (idx ci k : Nat) : Prop := ∃ (CN : String) (T : u_T) (N : Nat) (ty : Nat → FieldType), xcl[ci]? = some (CN, T, N) ∧ (∀ w ∈ u_ws CN T N, w ∈ xG) ∧ k < N ∧ Cond.fieldLink own idx (T k).1 (T k).2.1 (T k).2.2.1 ∈ xG ∧ (∀ k, k < N → parseFieldDescriptor (T k).2.2.1 = some (ty k)) ∧ (∀ a, a < N → ∀ b, b < N → a ≠ b → (T a).2.1 ≠ (T b).2.1) ∧ (T k).2.2.2 = false ∧ parseFieldDescriptor (T k).2.2.1 = some .int
theorem x_get (C : xC p s m args c cc nL own V) (hI : xI V s.heap σ H locs) {d : Nat} (hd : d < 61) {ci k idx : Nat} {fs : List Value} {v : Value} (hE : xE V d (σ d) = .inr (ci, fs)) (hF : xFd own idx ci k) (hv : fs[k]? = some v) (hdg : decode cc pc = .ok (.getfield idx, 3))
    (kk : W p l e R s m args below meth c H locs cells slots Z (F0 m (pc + 3) ls (v :: rest))) : W p l e R s m args below meth c H locs cells slots Z (F0 m pc ls (.ref (V.2.2 d) :: rest)) := by
  obtain ⟨CN, T, N, h1, h2, h3, h4⟩ := hF
  exact va_get C.1 C.2.1 C.2.2.2.2.1 h2 C.2.2.2.1 C.2.2.2.2.2.1 hI.1 d (by rw [xw_get hd, hE]) h1 k h3 (C.2.2.2.2.1 _ h4) (fun _ h => h) hv hdg kk
theorem x_getN (C : xC p s m args c cc nL "RegionPool$Heap" V) (hI : xI V s.heap σ H locs) {d : Nat} (hd : d < 61) {fs : List Value} {v : Value} (hE : xE V d (σ d) = .inr (5, fs)) (hv : fs[1]? = some v) (hdg : decode cc pc = .ok (.getfield 30, 3))
    (kk : W p l e R s m args below meth c H locs cells slots Z (F0 m (pc + 3) ls (v :: rest))) : W p l e R s m args below meth c H locs cells slots Z (F0 m pc ls (.ref (V.2.2 d) :: rest)) :=
  va_getN (C := R_Val) (T := T_Val) (N := 2) (host := "RegionPool") C.1 C.2.1 C.2.2.2.2.1 in_Val C.2.2.2.1 C.2.2.2.2.2.1 hI.1 d (by rw [xw_get hd, hE]) rfl 1 (by decide) (C.2.2.2.2.2.2.use rfl) (fun _ h => h) hv hdg kk
theorem x_put (C : xC p s m args c cc nL own V) (hI : xI V s.heap σ H locs) {d : Nat} (hd : d < 61) {ci k idx : Nat} {fs : List Value} {x : Int32} (hE : xE V d (σ d) = .inr (ci, fs)) (hE2 : xE V d (upd (σ d) k x) = .inr (ci, fs.set k (.int x))) (hF : xFw own idx ci k) (hk : k < fs.length) (hdg : decode cc pc = .ok (.putfield idx, 3))
    (kk : ∀ (H1 : Heap) (locs1 : List Loc), xI V s.heap (xu σ d k x) H1 locs1 → W p l e R s m args below meth c H1 locs1 cells slots Z (F0 m (pc + 3) ls rest)) : W p l e R s m args below meth c H locs cells slots Z (F0 m pc ls (.int x :: .ref (V.2.2 d) :: rest)) := by
  obtain ⟨CN, T, N, ty, h1, h2, h3, h4, h5, h6, h7, h8⟩ := hF
  have e := xw_set (V := V) (σ := σ) hd (upd (σ d) k x)
  rw [hE2] at e
  refine va_put (ty := .int) (v := .int x) C.1 C.2.1 C.2.2.2.2.1 h2 ty h5 h6 C.2.2.2.1 C.2.2.2.2.2.1 hI.1 hI.2.1 hI.2.2 d (by rw [xw_get hd, hE]) h1 k h3 (C.2.2.2.2.1 _ h4) (fun _ h => h) h7 h8 rfl rfl hk hdg (fun H1 locs1 a1 a2 a3 => ?_)
  rw [e] at a1 a2
  exact kk H1 locs1 ⟨a1, a2, a3⟩
theorem x_iald (C : xC p s m args c cc nL own V) (hI : xI V s.heap σ H locs) {d n : Nat} (hd : d < 61) (hE : ∀ f, xE V d f = .inl (V.2.1 0, n, .inl f)) {i : Int32} (hin : vp_in i n) (hdg : decode cc pc = .ok (.iaload, 1))
    (kk : W p l e R s m args below meth c H locs cells slots Z (F0 m (pc + 1) ls (.int (σ d i.toNatClampNeg) :: rest))) : W p l e R s m args below meth c H locs cells slots Z (F0 m pc ls (.int i :: .ref (V.2.2 d) :: rest)) :=
  va_iald C.1 C.2.1 C.2.2.2.2.2.1 hI.1 d 0 (by rw [xw_get hd, hE]) rfl hin hdg kk
theorem x_zald (C : xC p s m args c cc nL own V) (hI : xI V s.heap σ H locs) {d n : Nat} (hd : d < 61) (hE : ∀ f, xE V d f = .inl (V.2.1 1, n, .inl f)) {i : Int32} (hin : vp_in i n) (hdg : decode cc pc = .ok (.baload, 1))
    (kk : W p l e R s m args below meth c H locs cells slots Z (F0 m (pc + 1) ls (.int (σ d i.toNatClampNeg) :: rest))) : W p l e R s m args below meth c H locs cells slots Z (F0 m pc ls (.int i :: .ref (V.2.2 d) :: rest)) :=
  va_zald C.1 C.2.1 C.2.2.2.2.2.1 hI.1 d 1 (by rw [xw_get hd, hE]) rfl hin hdg kk
theorem x_lald (C : xC p s m args c cc nL own V) (hI : xI V s.heap σ H locs) {d n : Nat} (hd : d < 61) (hE : ∀ f, xE V d f = .inl (V.2.1 2, n, .inr (.inl (xL f)))) {i : Int32} (hin : vp_in i n) (hdg : decode cc pc = .ok (.laload, 1))
    (kk : W p l e R s m args below meth c H locs cells slots Z (F0 m (pc + 1) ls (.long (xL (σ d) i.toNatClampNeg) :: rest))) : W p l e R s m args below meth c H locs cells slots Z (F0 m pc ls (.int i :: .ref (V.2.2 d) :: rest)) :=
  va_lald C.1 C.2.1 C.2.2.2.2.2.1 hI.1 d 2 (by rw [xw_get hd, hE]) rfl hin hdg kk
theorem x_iast (C : xC p s m args c cc nL own V) (hI : xI V s.heap σ H locs) {d n : Nat} (hd : d < 61) (hE : ∀ f, xE V d f = .inl (V.2.1 0, n, .inl f)) {i x : Int32} (hin : vp_in i n) (hdg : decode cc pc = .ok (.iastore, 1))
    (kk : ∀ (H1 : Heap) (locs1 : List Loc), xI V s.heap (xu σ d i.toNatClampNeg x) H1 locs1 → W p l e R s m args below meth c H1 locs1 cells slots Z (F0 m (pc + 1) ls rest)) : W p l e R s m args below meth c H locs cells slots Z (F0 m pc ls (.int x :: .int i :: .ref (V.2.2 d) :: rest)) := by
  have e := xw_set (V := V) (σ := σ) hd (upd (σ d) i.toNatClampNeg x)
  rw [hE] at e
  refine va_iast C.1 C.2.1 C.2.2.2.2.2.1 hI.1 hI.2.1 hI.2.2 d 0 (by rw [xw_get hd, hE]) rfl hin hdg (fun H1 locs1 a1 a2 a3 => ?_)
  rw [e] at a1 a2
  exact kk H1 locs1 ⟨a1, a2, a3⟩
theorem x_zast (C : xC p s m args c cc nL own V) (hI : xI V s.heap σ H locs) {d n : Nat} (hd : d < 61) (hE : ∀ f, xE V d f = .inl (V.2.1 1, n, .inl f)) {i x : Int32} (hin : vp_in i n) (hdg : decode cc pc = .ok (.bastore, 1))
    (kk : ∀ (H1 : Heap) (locs1 : List Loc), xI V s.heap (xu σ d i.toNatClampNeg (vp_nar .boolean x)) H1 locs1 → W p l e R s m args below meth c H1 locs1 cells slots Z (F0 m (pc + 1) ls rest)) : W p l e R s m args below meth c H locs cells slots Z (F0 m pc ls (.int x :: .int i :: .ref (V.2.2 d) :: rest)) := by
  have e := xw_set (V := V) (σ := σ) hd (upd (σ d) i.toNatClampNeg (vp_nar .boolean x))
  rw [hE] at e
  refine va_zast C.1 C.2.1 C.2.2.2.2.2.1 hI.1 hI.2.1 hI.2.2 d 1 (by rw [xw_get hd, hE]) rfl hin hdg (fun H1 locs1 a1 a2 a3 => ?_)
  rw [e] at a1 a2
  exact kk H1 locs1 ⟨a1, a2, a3⟩
theorem x_last (C : xC p s m args c cc nL own V) (hI : xI V s.heap σ H locs) {d n : Nat} (hd : d < 61) (hE : ∀ f, xE V d f = .inl (V.2.1 2, n, .inr (.inl (xL f)))) {i : Int32} {x : Int64} (hin : vp_in i n) (hdg : decode cc pc = .ok (.lastore, 1))
    (kk : ∀ (H1 : Heap) (locs1 : List Loc), xI V s.heap (xul σ d i.toNatClampNeg x) H1 locs1 → W p l e R s m args below meth c H1 locs1 cells slots Z (F0 m (pc + 1) ls rest)) : W p l e R s m args below meth c H locs cells slots Z (F0 m pc ls (.long x :: .int i :: .ref (V.2.2 d) :: rest)) := by
  have e := xw_set (V := V) (σ := σ) hd (upd (upd (σ d) (2 * i.toNatClampNeg) (xlo x)) (2 * i.toNatClampNeg + 1) (xhi x))
  rw [hE, xL_up] at e
  refine va_last C.1 C.2.1 C.2.2.2.2.2.1 hI.1 hI.2.1 hI.2.2 d 2 (by rw [xw_get hd, hE]) rfl hin hdg (fun H1 locs1 a1 a2 a3 => ?_)
  rw [e] at a1 a2
  exact kk H1 locs1 ⟨a1, a2, a3⟩
theorem x_alen (C : xC p s m args c cc nL own V) (hI : xI V s.heap σ H locs) {d n k : Nat} (hd : d < 61) {ty : FieldType} (hk : (xty V)[k]? = some (V.2.1 k, ty)) {g : (Nat → Int32) ⊕ (Nat → Int64) ⊕ (Nat → UInt32) ⊕ (Nat → UInt64) ⊕ (Nat → Option Nat)} (hE : xE V d (σ d) = .inl (V.2.1 k, n, g)) {v : Int32} (hv : Int32.ofNat n = v) (hdg : decode cc pc = .ok (.arraylength, 1))
    (kk : W p l e R s m args below meth c H locs cells slots Z (F0 m (pc + 1) ls (.int v :: rest))) : W p l e R s m args below meth c H locs cells slots Z (F0 m pc ls (.ref (V.2.2 d) :: rest)) :=
  va_alen C.1 C.2.1 C.2.2.2.2.2.1 hI.1 d k (by rw [xw_get hd, hE]) hk hv hdg kk
/-- a method as a callee: its words -/
def xY (y : MethodName) (bytes : ByteArray) (maxL : Nat) (ret : Option FieldType) (n : Nat) : Prop :=
  Cond.instanceMethod y ∈ xG ∧ Cond.selects y.cls y y ∈ xG ∧ Cond.initialized y.cls ∈ xG ∧ Cond.code y bytes maxL ret ∈ xG ∧ y.cls ≠ "java/lang/invoke/MethodHandle" ∧ y.cls ≠ "java/lang/invoke/VarHandle" ∧ (parseMethodDescriptor y.desc).map (fun d => d.parameters.length) = some n
theorem x_cw {y : MethodName} {bytes : ByteArray} {maxL n idx : Nat} {ret : Option FieldType} {rm : Room} (hts : ∀ w ∈ xG, w.before args s = true) (hY : xY y bytes maxL ret n) (hl : Cond.methodLink own idx y ∈ xG) (hrc : rm.cells = 0) (hrs : rm.slots = 0) (hR : rm.frames + 1 ≤ R.frames ∧ 8 + (maxL + 11) + rm.locals ≤ R.locals) :
    CallW R s args own y.cls idx y bytes maxL ret (.code y bytes maxL ret :: xG) rm 0 0 n := by
  obtain ⟨h1, h2, h3, h4, h5, h6, h7⟩ := hY
  refine ⟨callB_of n hts (fun w h => ?_) rfl hrc hrs (hts _ h3) (hts _ hl) ⟨h5, h6, h7⟩ hR, hts _ h1, hts _ h2⟩
  rcases List.mem_cons.mp h with rfl | h
  · exact ⟨h4, good_of_word (xG_good h4)⟩
  · exact ⟨h, good_of_word (xG_good h)⟩
theorem x_recv (C : xC p s m args c cc nL own V) (hI : xI V s.heap σ H locs) {d : Nat} (hd : d < 61) {ci : Nat} {fs : List Value} {CN : String} {T : u_T} {N : Nat} (hE : xE V d (σ d) = .inr (ci, fs)) (hc : xcl[ci]? = some (CN, T, N)) : ∃ cell : Cell, H[V.2.2 d]? = some cell ∧ cell.vm.isStatics = false ∧ s.vm.findClass CN = some cell.cls :=
  va_recv (q := (CN, T, N)) C.2.2.2.2.2.1 hI.1 hc (by rw [xw_get hd, hE])
theorem x_free (hI : xI V s.heap σ H locs) : ∀ q, xA V H.size q → xA V s.heap.size q := fun q h => by
  rcases h with h | h
  · exact Or.inl h
  · exact Or.inr (Nat.le_trans hI.2.2.1 h)
theorem x_calli (C : xC p s m args c cc nL own V) (hI : xI V s.heap σ H locs) (hls : ls.size = nL) {d ci n idx maxL : Nat} (hd : d < 61) {fs : List Value} {T : u_T} {N : Nat} {y : MethodName} {bytes : ByteArray} {ret : Option FieldType} {rm : Room} {As : List Value} {Q : Int32 → xS → Prop} {g : List Value}
    (hM : xMi l y (.code y bytes maxL ret :: xG) rm V (.ref (V.2.2 d) :: As) σ Q) (hE : xE V d (σ d) = .inr (ci, fs)) (hc : xcl[ci]? = some (y.cls, T, N)) (hY : xY y bytes maxL ret n) (hl : Cond.methodLink own idx y ∈ xG) (hrc : rm.cells = 0) (hrs : rm.slots = 0) (hR : rm.frames + 1 ≤ R.frames ∧ 8 + (maxL + 11) + rm.locals ≤ R.locals)
    (hn : As.length = n) (hg : g = As.reverse ++ .ref (V.2.2 d) :: rest) (hw : (rest.map fun v => v.category).sum ≤ 8) (hdg : decode cc pc = .ok (.invokevirtual idx, 3)) (hf : cells ≤ R.cells ∧ slots ≤ R.slots)
    (kk : ∀ (r : Int32) (τ : xS) (H1 : Heap) (locs1 : List Loc), Q r τ → xI V s.heap τ H1 locs1 → W p l e R s m args below meth c H1 locs1 cells slots Z (F0 m (pc + 3) ls (.int r :: rest))) : W p l e R s m args below meth c H locs cells slots Z (F0 m pc ls g) := by
  subst hg
  refine va_calli (va_runV (As := As) (rest := rest) (Ts := xG) (nL := nL) ⟨C.1, C.2.1, C.2.2.1, C.2.2.2.1, C.2.2.2.2.1⟩ (hM H.size) (x_cw C.2.2.2.2.1 hY hl hrc hrs hR) ⟨xBlind, x_recv C hI hd hE hc, fun U hU hW => ⟨rfl, by rw [hU], by rw [hU]; exact hI.1, ⟨hI.2.1.1, fun _ _ _ => trivial⟩, C.2.2.2.2.2.moved hW⟩⟩ rfl hn hls rfl (lv_room hw) hdg hf) hI.2.2 (fun q _ h => x_free hI q h) (x_free hI) (fun r u t H1 locs1 ht hvm hq hB hz hk hS => ?_)
  exact kk r u H1 locs1 hq ⟨by rw [← ht]; exact hB, xD_any hI.2.1, hS⟩
theorem x_callv (C : xC p s m args c cc nL own V) (hI : xI V s.heap σ H locs) (hls : ls.size = nL) {d ci n idx maxL : Nat} (hd : d < 61) {fs : List Value} {T : u_T} {N : Nat} {y : MethodName} {bytes : ByteArray} {ret : Option FieldType} {rm : Room} {As : List Value} {Q : xS → Prop} {g : List Value}
    (hM : xMv l y (.code y bytes maxL ret :: xG) rm V (.ref (V.2.2 d) :: As) σ Q) (hE : xE V d (σ d) = .inr (ci, fs)) (hc : xcl[ci]? = some (y.cls, T, N)) (hY : xY y bytes maxL ret n) (hl : Cond.methodLink own idx y ∈ xG) (hrc : rm.cells = 0) (hrs : rm.slots = 0) (hR : rm.frames + 1 ≤ R.frames ∧ 8 + (maxL + 11) + rm.locals ≤ R.locals)
    (hn : As.length = n) (hg : g = As.reverse ++ .ref (V.2.2 d) :: rest) (hw : (rest.map fun v => v.category).sum ≤ 8) (hdg : decode cc pc = .ok (.invokevirtual idx, 3)) (hf : cells ≤ R.cells ∧ slots ≤ R.slots)
    (kk : ∀ (τ : xS) (H1 : Heap) (locs1 : List Loc), Q τ → xI V s.heap τ H1 locs1 → W p l e R s m args below meth c H1 locs1 cells slots Z (F0 m (pc + 3) ls rest)) : W p l e R s m args below meth c H locs cells slots Z (F0 m pc ls g) := by
  subst hg
  refine va_callv (va_runV (As := As) (rest := rest) (Ts := xG) (nL := nL) ⟨C.1, C.2.1, C.2.2.1, C.2.2.2.1, C.2.2.2.2.1⟩ (hM H.size) (x_cw C.2.2.2.2.1 hY hl hrc hrs hR) ⟨xBlind, x_recv C hI hd hE hc, fun U hU hW => ⟨rfl, by rw [hU], by rw [hU]; exact hI.1, ⟨hI.2.1.1, fun _ _ _ => trivial⟩, C.2.2.2.2.2.moved hW⟩⟩ rfl hn hls rfl (lv_room hw) hdg hf) hI.2.2 (fun q _ h => x_free hI q h) (x_free hI) (fun u t H1 locs1 ht hvm hq hB hz hk hS => ?_)
  exact kk u H1 locs1 hq ⟨by rw [← ht]; exact hB, xD_any hI.2.1, hS⟩
end XW

theorem xErow (V : xV) {r : Nat} (h : r < 8) (f : Nat → Int32) : xE V (32 + r) f = .inl (V.2.1 0, 40, .inl f) := by
  match r, h with
  | 0, _ => rfl
  | 1, _ => rfl
  | 2, _ => rfl
  | 3, _ => rfl
  | 4, _ => rfl
  | 5, _ => rfl
  | 6, _ => rfl
  | 7, _ => rfl
