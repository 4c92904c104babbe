theorem i_vc : Claimed_1_1 ∧ Claimed_1_2 := end_of (I := Inv) ⟨k_0, k_1, k_2, k_3, k_4, k_5, k_6, k_7, k_8, k_9, k_10, k_11, k_12, k_13, k_14, k_15, k_16, k_17, k_18, k_19⟩ Inv_nop Inv_0
