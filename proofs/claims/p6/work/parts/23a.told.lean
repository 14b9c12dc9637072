/-! What is told of strips; counts; the digest. -/
theorem sf_last (a : Nat → Int) : ∀ (d i : Nat), sf a i (d + 1) = sf a i d + a (i + d)
  | 0, i => by simp [sf]
  | d + 1, i => by
    show a i + sf a (i + 1) (d + 1) = (a i + sf a (i + 1) d) + a (i + (d + 1))
    rw [sf_last a d (i + 1), show i + 1 + d = i + (d + 1) by omega, Int.add_assoc]
noncomputable abbrev isk (o k : Int) : Prop := o = k ∨ (o = 4 ∧ k = 1) ∨ (o = 5 ∧ k = 2)
theorem sp_isOf_11 {M : am_M} (h : Gd11 M) {i k : Int} (hi : 0 ≤ i ∧ i < M 11 0) (hk : 1 ≤ k ∧ k ≤ 5) : X_X2_isOf_11 i k M = some (b2 (isk (M 12 i.toNat) k), M) := by
  have h1 := h.1
  have h2 := h.2.1
  have hq := h.2.2.1 i.toNat
  simp only [X_X2_isOf_11, sp_kindOf_11 h (show iR i by unfold iR; omega), if_pos hi, ob, wI_of (x := M 12 i.toNat) (by omega) (by omega), wI_of (x := k) (by omega) (by omega)]
  generalize M 12 i.toNat = o at hq ⊢
  unfold b2
  repeat' split
  all_goals first | rfl | (exfalso; omega)
theorem sp_isOf_53 {M : am_M} (h : GdM M) {i k : Int} (hi : 0 ≤ i ∧ i < M 53 1) (hk : 1 ≤ k ∧ k ≤ 5) : X_X9_isOf_53 i k M = some (b2 (isk (M 55 i.toNat) k), M) := by
  have h1 := h.1
  have h2 := h.2.1
  have hq := h.2.2.1 i.toNat
  simp only [X_X9_isOf_53, wI_of (x := i) (by omega) (by omega), wI_of (x := M 55 i.toNat) (by omega) (by omega), wI_of (x := k) (by omega) (by omega), if_pos (show 0 ≤ i ∧ i < 12 by omega)]
  generalize M 55 i.toNat = o at hq ⊢
  unfold b2
  repeat' split
  all_goals first | rfl | (exfalso; omega)
theorem lp_hma (k : Int → am_M → am_Rs) (q : Int) (hq : 1 ≤ q ∧ q ≤ 5) (M : am_M) (h : Gd11 M) : ∀ (d n : Nat) (acc : Int) (i : Nat), (i : Int) + d = M 11 0 → d < n → XL_X2_howManyAre_11_1 k n q acc i M = k (acc + sf (fun j => b2 (isk (M 12 j) q)) i d) M
  | 0, n + 1, acc, i, hi, hn => by
    have hh := h.2.1
    simp (disch := omega) only [XL_X2_howManyAre_11_1, XB_X2_howManyAre_11_1, wI_of (x := (i : Int)), wI_of (x := M 11 0), if_neg, sf, Int.add_zero]
  | d + 1, n + 1, acc, i, hi, hn => by
    have hh := h.2.1
    have ih := lp_hma k q hq M h d n (acc + b2 (isk (M 12 i) q)) (i + 1) (by push_cast; omega) (by omega)
    simp (disch := omega) only [XL_X2_howManyAre_11_1, XB_X2_howManyAre_11_1, wI_of (x := (i : Int)), wI_of (x := M 11 0), if_pos, sp_isOf_11 h (show 0 ≤ (i : Int) ∧ (i : Int) < M 11 0 by omega) hq, ob, Int.toNat_natCast, b2_w]
    simp only [sf]
    rw [← Int.add_assoc, show (i : Int) + 1 = ((i + 1 : Nat) : Int) from rfl]
    by_cases c : isk (M 12 i) q
    · rw [b2_t c] at ih ⊢; rw [if_neg (by decide)]; exact ih
    · rw [b2_f c] at ih ⊢; rw [if_pos rfl]; rw [Int.add_zero] at ih ⊢; exact ih
theorem sp_hma {M : am_M} (h : Gd11 M) {q : Int} (hq : 1 ≤ q ∧ q ≤ 5) : X_X2_howManyAre_11 q M = some (sf (fun j => b2 (isk (M 12 j) q)) 0 (M 11 0).toNat, M) := by
  have h1 := h.1
  have h2 := h.2.1
  rw [X_X2_howManyAre_11, XB_X2_howManyAre_11_e]
  have := lp_hma XB_X2_howManyAre_11_5 q hq M h (M 11 0).toNat 1000 0 0 (by omega) (by omega)
  rw [show ((0 : Nat) : Int) = 0 from rfl, Int.zero_add] at this
  rw [this]
  rfl
theorem lp_km (k : Int → am_M → am_Rs) (q : Int) (hq : 1 ≤ q ∧ q ≤ 5) (M : am_M) (h : GdM M) : ∀ (d n : Nat) (acc : Int) (i : Nat), (i : Int) + d = M 53 1 → d < n → XL_X9_kindMany_53_1 k n q acc i M = k (acc + sf (fun j => b2 (isk (M 55 j) q)) i d) M
  | 0, n + 1, acc, i, hi, hn => by
    have hh := h.2.1
    simp (disch := omega) only [XL_X9_kindMany_53_1, XB_X9_kindMany_53_1, wI_of (x := (i : Int)), wI_of (x := M 53 1), if_neg, sf, Int.add_zero]
  | d + 1, n + 1, acc, i, hi, hn => by
    have hh := h.2.1
    have ih := lp_km k q hq M h d n (acc + b2 (isk (M 55 i) q)) (i + 1) (by push_cast; omega) (by omega)
    simp (disch := omega) only [XL_X9_kindMany_53_1, XB_X9_kindMany_53_1, wI_of (x := (i : Int)), wI_of (x := M 53 1), if_pos, sp_isOf_53 h (show 0 ≤ (i : Int) ∧ (i : Int) < M 53 1 by omega) hq, ob, Int.toNat_natCast, b2_w]
    simp only [sf]
    rw [← Int.add_assoc, show (i : Int) + 1 = ((i + 1 : Nat) : Int) from rfl]
    by_cases c : isk (M 55 i) q
    · rw [b2_t c] at ih ⊢; rw [if_neg (by decide)]; exact ih
    · rw [b2_f c] at ih ⊢; rw [if_pos rfl]; exact ih
theorem sp_km {M : am_M} (h : GdM M) {q : Int} (hq : 1 ≤ q ∧ q ≤ 5) : X_X9_kindMany_53 q M = some (sf (fun j => b2 (isk (M 55 j) q)) 0 (M 53 1).toNat, M) := by
  have h1 := h.1
  have h2 := h.2.1
  rw [X_X9_kindMany_53, XB_X9_kindMany_53_e]
  have := lp_km XB_X9_kindMany_53_6 q hq M h (M 53 1).toNat 1000 0 0 (by omega) (by omega)
  rw [show ((0 : Nat) : Int) = 0 from rfl, Int.zero_add] at this
  rw [this]
  rfl
theorem lp_hm_1 (k : Int → am_M → am_Rs) (M : am_M) (h : Sh1 M) : ∀ (d n : Nat) (acc : Int) (i : Nat), i + d = 6 → d < n → XL_X6_howMany_1_1 k n acc i M = k (acc + sf (fun j => b2 (0 ≤ M 2 j)) i d) M
  | 0, n + 1, acc, i, hi, hn => by
    simp (disch := omega) only [XL_X6_howMany_1_1, XB_X6_howMany_1_1, h.1, wI_of (x := (i : Int)), show wI 6 = 6 from rfl, if_neg, sf, Int.add_zero]
  | d + 1, n + 1, acc, i, hi, hn => by
    have ih := lp_hm_1 k M h d n (acc + b2 (0 ≤ M 2 i)) (i + 1) (by omega) (by omega)
    simp (disch := omega) only [XL_X6_howMany_1_1, XB_X6_howMany_1_1, h.1, wI_of (x := (i : Int)), show wI 6 = 6 from rfl, if_pos, sp_isThere_1 h (show 0 ≤ (i : Int) ∧ (i : Int) < 6 by omega), ob, Int.toNat_natCast, b2_w]
    simp only [sf]
    rw [← Int.add_assoc, show (i : Int) + 1 = ((i + 1 : Nat) : Int) from rfl]
    by_cases c : 0 ≤ M 2 i
    · rw [b2_t c] at ih ⊢; rw [if_neg (by decide)]; exact ih
    · rw [b2_f c] at ih ⊢; rw [if_pos rfl]; rw [Int.add_zero] at ih ⊢; exact ih
theorem sp_howMany_1 {M : am_M} (h : Sh1 M) : X_X6_howMany_1 M = some (sf (fun j => b2 (0 ≤ M 2 j)) 0 6, M) := by
  rw [X_X6_howMany_1, XB_X6_howMany_1_e]
  have := lp_hm_1 XB_X6_howMany_1_5 M h 6 1000 0 0 (by omega) (by omega)
  rw [show ((0 : Nat) : Int) = 0 from rfl, Int.zero_add] at this
  rw [this]
  rfl
theorem lp_hm_4 (k : Int → am_M → am_Rs) (M : am_M) (h : Sh4 M) : ∀ (d n : Nat) (acc : Int) (i : Nat), i + d = 4 → d < n → XL_X6_howMany_4_1 k n acc i M = k (acc + sf (fun j => b2 (0 ≤ M 5 j)) i d) M
  | 0, n + 1, acc, i, hi, hn => by
    simp (disch := omega) only [XL_X6_howMany_4_1, XB_X6_howMany_4_1, h.1, wI_of (x := (i : Int)), show wI 4 = 4 from rfl, if_neg, sf, Int.add_zero]
  | d + 1, n + 1, acc, i, hi, hn => by
    have ih := lp_hm_4 k M h d n (acc + b2 (0 ≤ M 5 i)) (i + 1) (by omega) (by omega)
    simp (disch := omega) only [XL_X6_howMany_4_1, XB_X6_howMany_4_1, h.1, wI_of (x := (i : Int)), show wI 4 = 4 from rfl, if_pos, sp_isThere_4 h (show 0 ≤ (i : Int) ∧ (i : Int) < 4 by omega), ob, Int.toNat_natCast, b2_w]
    simp only [sf]
    rw [← Int.add_assoc, show (i : Int) + 1 = ((i + 1 : Nat) : Int) from rfl]
    by_cases c : 0 ≤ M 5 i
    · rw [b2_t c] at ih ⊢; rw [if_neg (by decide)]; exact ih
    · rw [b2_f c] at ih ⊢; rw [if_pos rfl]; rw [Int.add_zero] at ih ⊢; exact ih
theorem sp_howMany_4 {M : am_M} (h : Sh4 M) : X_X6_howMany_4 M = some (sf (fun j => b2 (0 ≤ M 5 j)) 0 4, M) := by
  rw [X_X6_howMany_4, XB_X6_howMany_4_e]
  have := lp_hm_4 XB_X6_howMany_4_5 M h 4 1000 0 0 (by omega) (by omega)
  rw [show ((0 : Nat) : Int) = 0 from rfl, Int.zero_add] at this
  rw [this]
  rfl
theorem lp_kept (k : Int → am_M → am_Rs) (M : am_M) (h : ∀ j : Nat, j < 3 → -1 ≤ M 35 j ∧ M 35 j ≤ 40) : ∀ (d n : Nat) (acc : Int) (i : Nat), i + d = 3 → d < n → XL_X8_keptLands_0_1 k n acc i M = k (acc + sf (fun j => b2 (0 ≤ M 35 j)) i d) M
  | 0, n + 1, acc, i, hi, hn => by
    simp (disch := omega) only [XL_X8_keptLands_0_1, XB_X8_keptLands_0_1, wI_of (x := (i : Int)), if_neg, sf, Int.add_zero]
  | d + 1, n + 1, acc, i, hi, hn => by
    have hq := h i (by omega)
    have ih := lp_kept k M h d n (acc + b2 (0 ≤ M 35 i)) (i + 1) (by omega) (by omega)
    simp (disch := omega) only [XL_X8_keptLands_0_1, XB_X8_keptLands_0_1, wI_of (x := (i : Int)), if_pos, Int.toNat_natCast, wI_of (x := M 35 i)]
    simp only [sf]
    rw [← Int.add_assoc, show (i : Int) + 1 = ((i + 1 : Nat) : Int) from rfl]
    by_cases c : 0 ≤ M 35 i
    · rw [b2_t c] at ih ⊢; rw [if_neg (by omega)]; exact ih
    · rw [b2_f c] at ih ⊢; rw [if_pos (by omega)]; rw [Int.add_zero] at ih ⊢; exact ih
theorem sp_kept {M : am_M} (h : ∀ j : Nat, j < 3 → -1 ≤ M 35 j ∧ M 35 j ≤ 40) : X_X8_keptLands_0 M = some (sf (fun j => b2 (0 ≤ M 35 j)) 0 3, M) := by
  rw [X_X8_keptLands_0, XB_X8_keptLands_0_e]
  have := lp_kept XB_X8_keptLands_0_5 M h 3 1000 0 0 (by omega) (by omega)
  rw [show ((0 : Nat) : Int) = 0 from rfl, Int.zero_add] at this
  rw [this]
  rfl
theorem lp_there6 (k : Int → am_M → am_Rs) (M : am_M) (h : ∀ j, -1 ≤ M 57 j ∧ M 57 j ≤ 40) : ∀ (d n : Nat) (acc : Int) (i : Nat), i + d = 6 → d < n → XL_X9_thereOf_53_1 k n 6 acc i M = k (acc + sf (fun j => b2 (0 ≤ M 57 j)) i d) M
  | 0, n + 1, acc, i, hi, hn => by
    simp (disch := omega) only [XL_X9_thereOf_53_1, XB_X9_thereOf_53_1, wI_of (x := (i : Int)), if_neg, sf, Int.add_zero]
  | d + 1, n + 1, acc, i, hi, hn => by
    have hq := h i
    have ih := lp_there6 k M h d n (acc + b2 (0 ≤ M 57 i)) (i + 1) (by omega) (by omega)
    simp (disch := omega) only [XL_X9_thereOf_53_1, XB_X9_thereOf_53_1, wI_of (x := (i : Int)), show wI 6 = 6 from rfl, if_pos, if_true, Int.toNat_natCast, wI_of (x := M 57 i)]
    simp only [sf]
    rw [← Int.add_assoc, show (i : Int) + 1 = ((i + 1 : Nat) : Int) from rfl]
    by_cases c : 0 ≤ M 57 i
    · rw [b2_t c] at ih ⊢; rw [if_neg (by omega)]; exact ih
    · rw [b2_f c] at ih ⊢; rw [if_pos (by omega)]; exact ih
theorem lp_there7 (k : Int → am_M → am_Rs) (M : am_M) (h : ∀ j, -1 ≤ M 59 j ∧ M 59 j ≤ 60) : ∀ (d n : Nat) (acc : Int) (i : Nat), i + d = 6 → d < n → XL_X9_thereOf_53_1 k n 7 acc i M = k (acc + sf (fun j => b2 (j < 4 ∧ 0 ≤ M 59 j)) i d) M
  | 0, n + 1, acc, i, hi, hn => by
    simp (disch := omega) only [XL_X9_thereOf_53_1, XB_X9_thereOf_53_1, wI_of (x := (i : Int)), if_neg, sf, Int.add_zero]
  | d + 1, n + 1, acc, i, hi, hn => by
    have hq := h i
    have ih := lp_there7 k M h d n (acc + b2 (i < 4 ∧ 0 ≤ M 59 i)) (i + 1) (by omega) (by omega)
    simp (disch := omega) only [XL_X9_thereOf_53_1, XB_X9_thereOf_53_1, wI_of (x := (i : Int)), show wI 7 = 7 from rfl, show ¬ ((7 : Int) = 6) by decide, if_pos, if_true, if_false, Int.toNat_natCast, wI_of (x := M 59 i)]
    simp only [sf]
    rw [← Int.add_assoc, show (i : Int) + 1 = ((i + 1 : Nat) : Int) from rfl]
    by_cases c1 : i < 4
    · rw [if_pos (show (i : Int) < 4 by omega)]
      by_cases c : 0 ≤ M 59 i
      · rw [b2_t ⟨c1, c⟩] at ih ⊢; rw [if_neg (by omega)]; exact ih
      · rw [b2_f (fun q => c q.2)] at ih ⊢; rw [if_pos (by omega)]; exact ih
    · rw [if_neg (show ¬ (i : Int) < 4 by omega)]
      rw [b2_f (fun q => c1 q.1)] at ih ⊢; exact ih
theorem lp_there8 (k : Int → am_M → am_Rs) (M : am_M) (h : ∀ j : Nat, j < 3 → -1 ≤ M 54 (121 * (1 + j)) ∧ M 54 (121 * (1 + j)) ≤ 40) : ∀ (d n : Nat) (acc : Int) (i : Nat), i + d = 6 → d < n → XL_X9_thereOf_53_1 k n 8 acc i M = k (acc + sf (fun j => b2 (j < 3 ∧ 0 ≤ M 54 (121 * (1 + j)))) i d) M
  | 0, n + 1, acc, i, hi, hn => by
    simp (disch := omega) only [XL_X9_thereOf_53_1, XB_X9_thereOf_53_1, wI_of (x := (i : Int)), if_neg, sf, Int.add_zero]
  | d + 1, n + 1, acc, i, hi, hn => by
    have ih := lp_there8 k M h d n (acc + b2 (i < 3 ∧ 0 ≤ M 54 (121 * (1 + i)))) (i + 1) (by omega) (by omega)
    have e : ∀ _ : Unit, wI (121 * (1 + (i : Int)) + 0) = ((121 * (1 + i) : Nat) : Int) := fun _ => by rw [wI_of (by omega) (by omega)]; push_cast; omega
    simp (disch := omega) only [XL_X9_thereOf_53_1, XB_X9_thereOf_53_1, wI_of (x := (i : Int)), show wI 8 = 8 from rfl, show ¬ ((8 : Int) = 6) by decide, show ¬ ((8 : Int) = 7) by decide, if_pos, if_false, e (), Int.toNat_natCast]
    simp only [sf]
    rw [← Int.add_assoc, show (i : Int) + 1 = ((i + 1 : Nat) : Int) from rfl]
    by_cases c1 : i < 3
    · have hq := h i c1
      rw [if_pos (show (i : Int) < 3 by omega), wI_of (x := M 54 (121 * (1 + i))) (by omega) (by omega)]
      by_cases c : 0 ≤ M 54 (121 * (1 + i))
      · rw [b2_t ⟨c1, c⟩] at ih ⊢; rw [if_neg (by omega)]; exact ih
      · rw [b2_f (fun q => c q.2)] at ih ⊢; rw [if_pos (by omega)]; exact ih
    · rw [if_neg (show ¬ (i : Int) < 3 by omega)]
      rw [b2_f (fun q => c1 q.1)] at ih ⊢; exact ih
theorem b2F : b2 False = 0 := rfl
noncomputable def cnt (M : am_M) : Nat → Int
  | 0 => M 11 0
  | 1 => M 14 0
  | 2 => M 14 2
  | 3 => M 14 3
  | 4 => sf (fun j => b2 (isk (M 12 j) 1)) 0 (M 11 0).toNat
  | 5 => sf (fun j => b2 (isk (M 12 j) 2)) 0 (M 11 0).toNat
  | 6 => sf (fun j => b2 (0 ≤ M 2 j)) 0 6
  | 7 => sf (fun j => b2 (0 ≤ M 5 j)) 0 4
  | _ => sf (fun j => b2 (0 ≤ M 35 j)) 0 3
theorem Inv.k35 {M : am_M} (I : Inv M) : ∀ j : Nat, j < 3 → M 54 (121 * (1 + j)) = M 35 j ∧ -1 ≤ M 35 j ∧ M 35 j ≤ 40 := fun j hj => by
  obtain ⟨k1, k2, k3⟩ := I.2.2.2.2.2.1
  match j, hj with
  | 0, _ => exact ⟨k1.1, k1.2.1, k1.2.2.1⟩
  | 1, _ => exact ⟨k2.1, k2.2.1, k2.2.2.1⟩
  | 2, _ => exact ⟨k3.1, k3.2.1, k3.2.2.1⟩
theorem sp_count_c {M : am_M} (I : Inv M) : ∀ v : Nat, v < 9 → X_X8_count_0 v M = some (cnt M v, M)
  | 0, _ => rfl
  | 1, _ => rfl
  | 2, _ => rfl
  | 3, _ => rfl
  | 4, _ => by
    show (X_X2_howManyAre_11 1 M).bind _ = _
    rw [sp_hma I.g11 (by decide)]; rfl
  | 5, _ => by
    show (X_X2_howManyAre_11 2 M).bind _ = _
    rw [sp_hma I.g11 (by decide)]; rfl
  | 6, _ => by
    show (X_X6_howMany_1 M).bind _ = _
    rw [sp_howMany_1 I.sh1]; rfl
  | 7, _ => by
    show (X_X6_howMany_4 M).bind _ = _
    rw [sp_howMany_4 I.sh4]; rfl
  | 8, _ => by
    show (X_X8_keptLands_0 M).bind _ = _
    rw [sp_kept (fun j hj => (I.k35 j hj).2)]; rfl
theorem sp_count_m {M : am_M} (I : Inv M) : ∀ v : Nat, v < 9 → X_X9_countOf_53 v M = some (cnt M v, M)
  | 0, _ => by
    show some (M 53 1, M) = some (M 11 0, M)
    rw [I.2.2.2.1.1]
  | 1, _ => by
    show some (M 54 0, M) = some (M 14 0, M)
    rw [show M 54 0 = M 14 0 from I.2.2.2.2.1.1.1]
  | 2, _ => by
    show some (M 54 2, M) = some (M 14 2, M)
    rw [show M 54 2 = M 14 2 from I.2.2.2.2.1.1.2.2.2.2.1]
  | 3, _ => by
    show some (M 54 3, M) = some (M 14 3, M)
    rw [show M 54 3 = M 14 3 from I.2.2.2.2.1.1.2.2.2.2.2.1]
  | 4, _ => by
    show (X_X9_kindMany_53 1 M).bind _ = _
    have hs := I.g11.1
    rw [sp_km I.gM (by decide), I.2.2.2.1.1, sf_c (b := fun j => b2 (isk (M 12 j) 1)) _ _ (fun j h1 h2 => by rw [(I.2.2.2.1.2.2.2.2.2.2.2.1 j (by omega)).1])]; rfl
  | 5, _ => by
    show (X_X9_kindMany_53 2 M).bind _ = _
    have hs := I.g11.1
    rw [sp_km I.gM (by decide), I.2.2.2.1.1, sf_c (b := fun j => b2 (isk (M 12 j) 2)) _ _ (fun j h1 h2 => by rw [(I.2.2.2.1.2.2.2.2.2.2.2.1 j (by omega)).1])]; rfl
  | 6, _ => by
    show (X_X9_thereOf_53 6 M).bind _ = _
    obtain ⟨e57, h2, -⟩ := I.2.1
    rw [X_X9_thereOf_53, XB_X9_thereOf_53_e]
    have := lp_there6 XB_X9_thereOf_53_16 M (by rw [e57]; exact h2) 6 1000 0 0 (by omega) (by omega)
    rw [show ((0 : Nat) : Int) = 0 from rfl, Int.zero_add, e57] at this
    rw [this]; rfl
  | 7, _ => by
    show (X_X9_thereOf_53 7 M).bind _ = _
    obtain ⟨e59, h2, -⟩ := I.2.2.1
    rw [X_X9_thereOf_53, XB_X9_thereOf_53_e]
    have := lp_there7 XB_X9_thereOf_53_16 M (by rw [e59]; exact h2) 6 1000 0 0 (by omega) (by omega)
    rw [show ((0 : Nat) : Int) = 0 from rfl, Int.zero_add, e59] at this
    rw [this]
    show some (_, M) = some (_, M)
    simp [sf, cnt, b2F]
  | 8, _ => by
    show (X_X9_thereOf_53 8 M).bind _ = _
    rw [X_X9_thereOf_53, XB_X9_thereOf_53_e]
    have := lp_there8 XB_X9_thereOf_53_16 M (fun j hj => by rw [(I.k35 j hj).1]; exact (I.k35 j hj).2) 6 1000 0 0 (by omega) (by omega)
    rw [show ((0 : Nat) : Int) = 0 from rfl, Int.zero_add] at this
    rw [this]
    show some (_, M) = some (_, M)
    have e0 := (I.k35 0 (by decide)).1
    have e1 := (I.k35 1 (by decide)).1
    have e2 := (I.k35 2 (by decide)).1
    simp only [Nat.add_zero, Nat.mul_one, Nat.reduceAdd, Nat.reduceMul] at e0 e1 e2
    simp [sf, cnt, e0, e1, e2, b2F]
theorem sp_count_o {M : am_M} {v : Int} (hv : iR v) (c : ¬ (0 ≤ v ∧ v ≤ 8)) : X_X8_count_0 v M = some (-1, M) := by
  unfold X_X8_count_0
  rw [wI_R hv, if_neg (by omega), if_neg (by omega), if_neg (by omega), if_neg (by omega), if_neg (by omega), if_neg (by omega), if_neg (by omega), if_neg (by omega), if_neg (by omega)]
theorem eq_count {M : am_M} (I : Inv M) {v : Int} (hv : iR v) : Step (X_X8_count_0 v) (X_X9_count_53 v) M := by
  have i8 : iR 8 := by unfold iR; omega
  by_cases c : 0 ≤ v ∧ v ≤ 8
  · obtain ⟨w, hw⟩ := Int.eq_ofNat_of_zero_le c.1
    refine st_same I (v := cnt M w) (w := cnt M w) ?_ ?_ rfl
    · rw [hw]; exact sp_count_c I w (by omega)
    · rw [X_X9_count_53, wI_R hv, sp_in M hv i0 i8, b2_t c, ob]
      rw [if_neg (by rw [w1]; decide), hw, sp_count_m I w (by omega), ob]
  · refine st_same I (v := -1) (w := -1) (sp_count_o hv c) ?_ rfl
    rw [X_X9_count_53, wI_R hv, sp_in M hv i0 i8, b2_f c, ob]; exact if_pos wI_0
