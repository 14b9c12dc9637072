/-! The fresh world. -/
theorem z_0 : M0 0 = fun j => if j = 15 then 1 else 0 := cm_row (n := 16) (by decide +kernel) (by decide +kernel) (fun j h => by (try dsimp only); repeat (first | rw [if_neg (by omega)] | rfl))
theorem z_1 : M0 1 = fun j => if j = 0 then 6 else if j = 1 then 40 else 0 := cm_row (n := 3) (by decide +kernel) (by decide +kernel) (fun j h => by (try dsimp only); repeat (first | rw [if_neg (by omega)] | rfl))
theorem z_2 : M0 2 = fun j => if j < 6 then -1 else 0 := cm_row (n := 6) (by decide +kernel) (by decide +kernel) (fun j h => by (try dsimp only); repeat (first | rw [if_neg (by omega)] | rfl))
theorem z_3 : M0 3 = fun _ => 0 := cm_row (n := 0) (by decide +kernel) (by decide +kernel) (fun _ _ => rfl)
theorem z_4 : M0 4 = fun j => if j = 0 then 4 else if j = 1 then 60 else if j = 2 then 32 else 0 := cm_row (n := 3) (by decide +kernel) (by decide +kernel) (fun j h => by (try dsimp only); repeat (first | rw [if_neg (by omega)] | rfl))
theorem z_5 : M0 5 = fun j => if j < 4 then -1 else 0 := cm_row (n := 4) (by decide +kernel) (by decide +kernel) (fun j h => by (try dsimp only); repeat (first | rw [if_neg (by omega)] | rfl))
theorem z_6 : M0 6 = fun _ => 0 := cm_row (n := 0) (by decide +kernel) (by decide +kernel) (fun _ _ => rfl)
theorem z_9 : M0 9 = fun _ => 0 := cm_row (n := 0) (by decide +kernel) (by decide +kernel) (fun _ _ => rfl)
theorem z_10 : M0 10 = fun _ => 0 := cm_row (n := 0) (by decide +kernel) (by decide +kernel) (fun _ _ => rfl)
theorem z_11 : M0 11 = fun _ => 0 := cm_row (n := 0) (by decide +kernel) (by decide +kernel) (fun _ _ => rfl)
theorem z_12 : M0 12 = fun _ => 0 := cm_row (n := 0) (by decide +kernel) (by decide +kernel) (fun _ _ => rfl)
theorem z_13 : M0 13 = fun _ => 0 := cm_row (n := 0) (by decide +kernel) (by decide +kernel) (fun _ _ => rfl)
theorem z_14 : M0 14 = fun _ => 0 := cm_row (n := 0) (by decide +kernel) (by decide +kernel) (fun _ _ => rfl)
theorem z_15 : M0 15 = fun _ => 0 := cm_row (n := 0) (by decide +kernel) (by decide +kernel) (fun _ _ => rfl)
theorem z_16 : M0 16 = fun _ => 0 := cm_row (n := 0) (by decide +kernel) (by decide +kernel) (fun _ _ => rfl)
theorem z_17 : M0 17 = fun _ => 0 := cm_row (n := 0) (by decide +kernel) (by decide +kernel) (fun _ _ => rfl)
theorem z_18 : M0 18 = fun _ => 0 := cm_row (n := 0) (by decide +kernel) (by decide +kernel) (fun _ _ => rfl)
theorem z_20 : M0 20 = fun _ => 0 := cm_row (n := 0) (by decide +kernel) (by decide +kernel) (fun _ _ => rfl)
theorem z_21 : M0 21 = fun _ => 0 := cm_row (n := 0) (by decide +kernel) (by decide +kernel) (fun _ _ => rfl)
theorem z_22 : M0 22 = fun _ => 0 := cm_row (n := 0) (by decide +kernel) (by decide +kernel) (fun _ _ => rfl)
theorem z_23 : M0 23 = fun _ => 0 := cm_row (n := 0) (by decide +kernel) (by decide +kernel) (fun _ _ => rfl)
theorem z_24 : M0 24 = fun _ => 0 := cm_row (n := 0) (by decide +kernel) (by decide +kernel) (fun _ _ => rfl)
theorem z_25 : M0 25 = fun _ => 0 := cm_row (n := 0) (by decide +kernel) (by decide +kernel) (fun _ _ => rfl)
theorem z_26 : M0 26 = fun _ => 0 := cm_row (n := 0) (by decide +kernel) (by decide +kernel) (fun _ _ => rfl)
theorem z_27 : M0 27 = fun _ => 0 := cm_row (n := 0) (by decide +kernel) (by decide +kernel) (fun _ _ => rfl)
theorem z_28 : M0 28 = fun _ => 0 := cm_row (n := 0) (by decide +kernel) (by decide +kernel) (fun _ _ => rfl)
theorem z_29 : M0 29 = fun _ => 0 := cm_row (n := 0) (by decide +kernel) (by decide +kernel) (fun _ _ => rfl)
theorem z_30 : M0 30 = fun _ => 0 := cm_row (n := 0) (by decide +kernel) (by decide +kernel) (fun _ _ => rfl)
theorem z_31 : M0 31 = fun _ => 0 := cm_row (n := 0) (by decide +kernel) (by decide +kernel) (fun _ _ => rfl)
theorem z_32 : M0 32 = fun _ => 0 := cm_row (n := 0) (by decide +kernel) (by decide +kernel) (fun _ _ => rfl)
theorem z_33 : M0 33 = fun _ => 0 := cm_row (n := 0) (by decide +kernel) (by decide +kernel) (fun _ _ => rfl)
theorem z_34 : M0 34 = fun _ => 0 := cm_row (n := 0) (by decide +kernel) (by decide +kernel) (fun _ _ => rfl)
theorem z_35 : M0 35 = fun j => if j < 3 then -1 else 0 := cm_row (n := 3) (by decide +kernel) (by decide +kernel) (fun j h => by (try dsimp only); repeat (first | rw [if_neg (by omega)] | rfl))
theorem z_52 : M0 52 = fun _ => 0 := cm_row (n := 0) (by decide +kernel) (by decide +kernel) (fun _ _ => rfl)
theorem z_53 : M0 53 = fun j => if j = 10 then 1 else 0 := cm_row (n := 31) (by decide +kernel) (by decide +kernel) (fun j h => by (try dsimp only); repeat (first | rw [if_neg (by omega)] | rfl))
theorem z_54 : M0 54 = fun j => if j = 121 then -1 else if j = 242 then -1 else if j = 363 then -1 else 0 := cm_row (n := 364) (by decide +kernel) (by decide +kernel) (fun j h => by (try dsimp only); repeat (first | rw [if_neg (by omega)] | rfl))
theorem z_55 : M0 55 = fun _ => 0 := cm_row (n := 0) (by decide +kernel) (by decide +kernel) (fun _ _ => rfl)
theorem z_56 : M0 56 = fun _ => 0 := cm_row (n := 0) (by decide +kernel) (by decide +kernel) (fun _ _ => rfl)
theorem z_57 : M0 57 = fun j => if j < 6 then -1 else 0 := cm_row (n := 6) (by decide +kernel) (by decide +kernel) (fun j h => by (try dsimp only); repeat (first | rw [if_neg (by omega)] | rfl))
theorem z_58 : M0 58 = fun _ => 0 := cm_row (n := 0) (by decide +kernel) (by decide +kernel) (fun _ _ => rfl)
theorem z_59 : M0 59 = fun j => if j < 4 then -1 else 0 := cm_row (n := 4) (by decide +kernel) (by decide +kernel) (fun j h => by (try dsimp only); repeat (first | rw [if_neg (by omega)] | rfl))
theorem z_60 : M0 60 = fun _ => 0 := cm_row (n := 0) (by decide +kernel) (by decide +kernel) (fun _ _ => rfl)
theorem z_61 : M0 61 = fun _ => 0 := cm_row (n := 0) (by decide +kernel) (by decide +kernel) (fun _ _ => rfl)
theorem DI0 {L : Nat → Int} {z : Nat} (h0 : L z = 0) (h1 : L (z + 1) = 0) (h2 : L (z + 2) = 0) (h3 : L (z + 3) = 0) (h4 : L (z + 120) = 0) : DI 0 (fun _ => 0) (fun _ => 0) (fun _ => 0) (fun _ => 0) (fun _ => 0) (fun _ => 0) (fun _ => 0) L z := by
  refine ⟨⟨h0, ⟨by decide, by decide⟩, h1, ⟨by decide, by decide⟩, h2, h3, ⟨by decide, by decide⟩, ⟨by decide, by decide⟩, fun _ => rfl⟩, ⟨fun j => by (try dsimp only); omega, fun j hj => by exfalso; (try dsimp only at hj); omega⟩, ⟨h4.symm, rfl, fun j => by (try dsimp only); omega, fun j _ => by (try dsimp only); omega, fun j hj => by exfalso; (try dsimp only at hj); omega⟩, ⟨fun j => by (try dsimp only); omega, fun t i ht hi => by exfalso; (try dsimp only at ht); omega⟩, fun i hi => by exfalso; omega⟩
theorem M0_inv : Inv M0 := by
  unfold Inv
  rw [z_0, z_1, z_2, z_3, z_4, z_5, z_6, z_9, z_10, z_11, z_12, z_13, z_14, z_15, z_16, z_17, z_18, z_20, z_21, z_22, z_23, z_24, z_25, z_26, z_27, z_28, z_29, z_30, z_31, z_32, z_33, z_34, z_35, z_52, z_53, z_54, z_55, z_56, z_57, z_58, z_59, z_60, z_61]
  refine ⟨⟨rfl, rfl, rfl, rfl, rfl, rfl⟩, ⟨rfl, fun r => ?_, fun j => i0, fun r i _ _ => rfl⟩, ⟨rfl, fun r => ?_, fun j => by (try dsimp only); omega, fun r i _ _ => rfl⟩, ⟨rfl, Or.inl rfl, by (try dsimp only); omega, fun _ => by (try dsimp only); omega, fun _ => by (try dsimp only); omega, fun _ => by (try dsimp only); omega, fun _ => by (try dsimp only); omega, fun _ _ => ⟨rfl, rfl⟩, fun _ => by (try dsimp only); omega, fun _ => by (try dsimp only); omega⟩, DI0 rfl rfl rfl rfl rfl, ⟨⟨rfl, by decide, by decide, fun h => absurd h (by decide), fun j => by (try dsimp only); omega⟩, ⟨rfl, by decide, by decide, fun h => absurd h (by decide), fun j => by (try dsimp only); omega⟩, ⟨rfl, by decide, by decide, fun h => absurd h (by decide), fun j => by (try dsimp only); omega⟩⟩, rfl, rfl, rfl, rfl, rfl⟩
  · (try dsimp only); split <;> omega
  · (try dsimp only); split <;> omega
/-- a land of the reference copied -/
theorem lp_copyLand (k : am_M → am_Rs) (a b : Nat) (ha : a + 121 ≤ 605) (hb : b + 121 ≤ 605) (hab : a + 121 ≤ b ∨ b + 121 ≤ a) : ∀ (e n : Nat) (M : am_M) (i : Nat), i + e = 121 → e < n → XL_X9_copyLand_53_1 k n a b i M = k (am_row M 54 fun j => if b + i ≤ j ∧ j < b + 121 then M 54 (a + (j - b)) else M 54 j)
  | 0, n + 1, M, i, hi, hn => by
    have e : (fun j => if b + i ≤ j ∧ j < b + 121 then M 54 (a + (j - b)) else M 54 j) = M 54 := funext fun j => if_neg (by omega)
    rw [XL_X9_copyLand_53_1, XB_X9_copyLand_53_1, wI_of (x := (i : Int)) (by omega) (by omega), if_neg (by omega), e, row_self]
  | e + 1, n + 1, M, i, hi, hn => by
    rw [XL_X9_copyLand_53_1, XB_X9_copyLand_53_1, wI_of (x := (i : Int)) (by omega) (by omega), if_pos (by omega), wI_of (x := (a : Int) + i) (by omega) (by omega), wI_of (x := (b : Int) + i) (by omega) (by omega), if_pos (by omega), if_pos (by omega), show ((a : Int) + i).toNat = a + i by omega, show ((b : Int) + i).toNat = b + i by omega, show (i : Int) + 1 = ((i + 1 : Nat) : Int) from rfl, lp_copyLand k a b ha hb hab e n _ (i + 1) (by omega) (by omega), up_row, row_row]
    congr 2
    funext j
    simp only [row_s]
    by_cases hj : b + (i + 1) ≤ j ∧ j < b + 121
    · rw [if_pos hj, if_neg (by omega), if_pos (by omega)]
    · by_cases hj2 : j = b + i
      · rw [if_neg hj, if_pos hj2, if_pos (by omega), show a + (j - b) = a + i by omega]
      · rw [if_neg hj, if_neg hj2, if_neg (by omega)]
theorem sp_copyLand {M : am_M} {a b : Nat} (ha : a + 121 ≤ 605) (hb : b + 121 ≤ 605) (hab : a + 121 ≤ b ∨ b + 121 ≤ a) : X_X9_copyLand_53 a b M = some (0, am_row M 54 fun j => if b ≤ j ∧ j < b + 121 then M 54 (a + (j - b)) else M 54 j) := by
  rw [X_X9_copyLand_53, XB_X9_copyLand_53_e]
  have := lp_copyLand XB_X9_copyLand_53_3 a b ha hb hab 121 1000 M 0 (by omega) (by omega)
  rw [show ((0 : Nat) : Int) = 0 from rfl] at this
  rw [this, XB_X9_copyLand_53_3]
  simp only [Nat.add_zero]
theorem lp_lay1 (k : Int → am_M → am_Rs) (v : Int) : ∀ (e n : Nat) (M : am_M) (i : Nat), i + e = 40 → e < n → XL_X9_layAhead_53_1 k n v i M = k v (am_row M 54 fun j => if 484 + i ≤ j ∧ j < 524 then 0 else M 54 j)
  | 0, n + 1, M, i, hi, hn => by
    have e : (fun j => if 484 + i ≤ j ∧ j < 524 then 0 else M 54 j) = M 54 := funext fun j => if_neg (by omega)
    rw [XL_X9_layAhead_53_1, XB_X9_layAhead_53_1, wI_of (x := (i : Int)) (by omega) (by omega), if_neg (by omega), e, row_self]
  | e + 1, n + 1, M, i, hi, hn => by
    rw [XL_X9_layAhead_53_1, XB_X9_layAhead_53_1, wI_of (x := (i : Int)) (by omega) (by omega), if_pos (by omega), wI_of (x := 484 + (i : Int)) (by omega) (by omega), if_pos (by omega), show (484 + (i : Int)).toNat = 484 + i by omega, show (i : Int) + 1 = ((i + 1 : Nat) : Int) from rfl, lp_lay1 k v e n _ (i + 1) (by omega) (by omega), up_row, row_row]
    congr 2
    funext j
    simp only [row_s]
    by_cases hj : 484 + (i + 1) ≤ j ∧ j < 524
    · rw [if_pos hj, if_pos (by omega)]
    · by_cases hj2 : j = 484 + i
      · rw [if_neg hj, if_pos hj2, if_pos (by omega)]
      · rw [if_neg hj, if_neg hj2, if_neg (by omega)]
