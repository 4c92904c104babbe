theorem y_geq {r g : Nat → Nat} (h0 : r 0 = g 0) (h1 : r 1 = g 1) (h2 : r 2 = g 2) (h3 : r 3 = g 3) (h4 : r 4 = g 4) (h5 : r 5 = g 5) (h6 : r 6 = g 6) (h7 : r 7 = g 7) : (fun i => if i < 8 then some (r i) else none : Nat → Option Nat) = fun i => if i < 8 then some (g i) else none := by
  funext i
  by_cases hi : i < 8
  · rw [if_pos hi, if_pos hi]
    match i, hi with
    | 0, _ => rw [h0]
    | 1, _ => rw [h1]
    | 2, _ => rw [h2]
    | 3, _ => rw [h3]
    | 4, _ => rw [h4]
    | 5, _ => rw [h5]
    | 6, _ => rw [h6]
    | 7, _ => rw [h7]
  · rw [if_neg hi, if_neg hi]
