/-- a day of the reference, at the land that begins at z: whatever lies behind it and whatever is due -/
theorem lp_goOn (z : Nat) (hz : z = 0 ∨ z = 484) {M : am_M} (hG : 0 ≤ M 53 1 ∧ M 53 1 ≤ 12) {x y : Int} (hx : 0 ≤ x ∧ x ≤ 3) (hy : 0 ≤ y ∧ y ≤ 3) {d : Nat} (hd : M 54 z = d) (hd4 : d < 40) (hb : 0 ≤ M 54 (z + 1) ∧ M 54 (z + 1) ≤ M 53 1) (h2 : 0 ≤ M 54 (z + 2) ∧ M 54 (z + 2) ≤ 9) (h3 : 0 ≤ M 54 (z + 3) ∧ M 54 (z + 3) ≤ 9) (hs : 0 < M 53 1) {b' : Int} (hbe : X_X9_behind_53 (M 54 (z + 1)) d x y M = some (b', M)) (hr : 0 ≤ b' ∧ b' ≤ M 53 1) (hmv : b' = M 54 (z + 1) ∨ b' = M 54 (z + 1) - 1 ∨ b' = M 54 (z + 1) + 1) (F0 F1 : Nat → Int)
    (hP0 : ∀ (M' : am_M) (i : Nat), M' 53 = M 53 → M' 55 = M 55 → M' 56 = M 56 → (i : Int) < M 53 1 → X_X9_paysTo_53 i 0 b' (M 54 (z + 2)) M' = some (F0 i, M'))
    (hP1 : ∀ (M' : am_M) (i : Nat), M' 53 = M 53 → M' 55 = M 55 → M' 56 = M 56 → (i : Int) < M 53 1 → X_X9_paysTo_53 i 1 b' (M 54 (z + 3)) M' = some (F1 i, M')) :
    ∃ L', X_X9_goOn_53 z x y M = some (0, am_row M 54 L') ∧ L' z = d + 1 ∧ L' (z + 1) = b' ∧ L' (z + 2) = M 54 (z + 2) ∧ L' (z + 3) = M 54 (z + 3) ∧ L' (z + 40 + d) = 4 * x + y ∧ L' (z + 80 + d) = 10 * M 54 (z + 2) + M 54 (z + 3) ∧
      (∀ q : Nat, (q : Int) < M 53 1 → L' (z + 4 + 3 * q) = M 54 (z + 4 + 3 * q) + (if d % 10 = 9 then F0 q else 0) ∧ L' (z + 4 + 3 * q + 1) = M 54 (z + 4 + 3 * q + 1) + (if d % 10 = 9 then F1 q else 0) ∧ L' (z + 4 + 3 * q + 2) = M 54 (z + 4 + 3 * q + 2) + (if crw q (M 54 (z + 1)) = crw q b' then 0 else 1)) ∧
      ∀ j, (j < z ∨ z + 40 ≤ j) → j ≠ z + 40 + d → j ≠ z + 80 + d → L' j = M 54 j := by
  have g1 := hG.1
  have g2 := hG.2
  -- behind the count of changes
  obtain ⟨M1, hM1⟩ : ∃ M1, M1 = (if b' = M 54 (z + 1) then M else am_up M 54 (z + 4 + 3 * (if b' < M 54 (z + 1) then b' else M 54 (z + 1)).toNat + 2) (M 54 (z + 4 + 3 * (if b' < M 54 (z + 1) then b' else M 54 (z + 1)).toNat + 2) + 1)) := ⟨_, rfl⟩
  have hm0 : 0 ≤ (if b' < M 54 (z + 1) then b' else M 54 (z + 1)) ∧ (if b' < M 54 (z + 1) then b' else M 54 (z + 1)) ≤ 12 := by split <;> omega
  have hm1 : b' ≠ M 54 (z + 1) → (if b' < M 54 (z + 1) then b' else M 54 (z + 1)).toNat < 12 := fun h => by split <;> omega
  have k54 : ∀ j, (∀ q : Nat, q < 12 → j ≠ z + 4 + 3 * q + 2) → M1 54 j = M 54 j := fun j hj => by
    rw [hM1]
    by_cases hbb : b' = M 54 (z + 1)
    · rw [if_pos hbb]
    · rw [if_neg hbb, up_j (hj _ (hm1 hbb))]
  have kc : ∀ a, a ≠ 54 → M1 a = M a := fun a ha => by
    rw [hM1]; split
    · rfl
    · rw [up_a ha]
  have kq : ∀ q : Nat, (q : Int) < M 53 1 → M1 54 (z + 4 + 3 * q + 2) = M 54 (z + 4 + 3 * q + 2) + (if crw q (M 54 (z + 1)) = crw q b' then 0 else 1) := fun q hq => by
    rw [hM1]
    by_cases hbb : b' = M 54 (z + 1)
    · rw [if_pos hbb, hbb, if_pos rfl, Int.add_zero]
    · rw [if_neg hbb]
      by_cases hqq : q = (if b' < M 54 (z + 1) then b' else M 54 (z + 1)).toNat
      · rw [← hqq, up_s]
        congr 1
        split at hqq
        · rw [if_neg (by unfold crw; split <;> split <;> omega)]
        · rw [if_neg (by unfold crw; split <;> split <;> omega)]
      · rw [up_j (by omega)]
        split at hqq
        · rw [if_pos (by unfold crw; split <;> split <;> omega), Int.add_zero]
        · rw [if_pos (by unfold crw; split <;> split <;> omega), Int.add_zero]
  have hstart : X_X9_goOn_53 z x y M = XB_X9_goOn_53_5 (XL_X9_goOn_53_6 XB_X9_goOn_53_9 1000) z x y d b' M1 := by
    have e0 : ∀ _ : Unit, wI ((z : Int) + 0) = ((z : Nat) : Int) := fun _ => by rw [wI_of (by omega) (by omega)]; omega
    have e1 : ∀ _ : Unit, wI ((z : Int) + 1) = ((z + 1 : Nat) : Int) := fun _ => by rw [wI_of (by omega) (by omega)]; push_cast; omega
    rw [X_X9_goOn_53, XB_X9_goOn_53_e]
    simp only [e0 (), e1 (), Int.toNat_natCast, hd, hbe, ob, wI_of (x := b') (by omega) (by omega), wI_of (x := M 54 (z + 1)) (by omega) (by omega)]
    rw [if_pos (by omega), if_pos (by omega)]
    by_cases q1 : b' = M 54 (z + 1)
    · rw [if_pos q1, hM1, if_pos q1]
    · rw [if_neg q1]
      by_cases q2 : b' < M 54 (z + 1)
      · have e2 : ∀ _ : Unit, wI ((z : Int) + 4 + 3 * b' + 2) = ((z + 4 + 3 * b'.toNat + 2 : Nat) : Int) := fun _ => by rw [wI_of (by omega) (by omega)]; push_cast; omega
        simp only [if_pos q2, e2 (), Int.toNat_natCast]
        rw [if_pos (by omega), if_pos (by omega), hM1, if_neg q1]
        simp only [if_pos q2]
      · have e2 : ∀ _ : Unit, wI ((z : Int) + 4 + 3 * M 54 (z + 1) + 2) = ((z + 4 + 3 * (M 54 (z + 1)).toNat + 2 : Nat) : Int) := fun _ => by rw [wI_of (by omega) (by omega)]; push_cast; omega
        simp only [if_neg q2, e2 (), Int.toNat_natCast]
        rw [if_pos (by omega), if_pos (by omega), hM1, if_neg q1]
        simp only [if_neg q2]
  -- behind the notes of the day
  obtain ⟨M2, hM2⟩ : ∃ M2, M2 = am_up (am_up (am_up M1 54 (z + 40 + d) (4 * x + y)) 54 (z + 80 + d) (10 * M 54 (z + 2) + M 54 (z + 3))) 54 (z + 1) b' := ⟨_, rfl⟩
  have hmid : XB_X9_goOn_53_5 (XL_X9_goOn_53_6 XB_X9_goOn_53_9 1000) z x y d b' M1 = XL_X9_goOn_53_6 XB_X9_goOn_53_9 1000 z d b' 0 M2 := by
    have e0 : ∀ _ : Unit, wI ((z : Int) + 40 + d) = ((z + 40 + d : Nat) : Int) := fun _ => by rw [wI_of (by omega) (by omega)]; push_cast; omega
    have e1 : ∀ _ : Unit, wI ((z : Int) + 80 + d) = ((z + 80 + d : Nat) : Int) := fun _ => by rw [wI_of (by omega) (by omega)]; push_cast; omega
    have e2 : ∀ _ : Unit, wI ((z : Int) + 2) = ((z + 2 : Nat) : Int) := fun _ => by rw [wI_of (by omega) (by omega)]; push_cast; omega
    have e3 : ∀ _ : Unit, wI ((z : Int) + 2 + 1) = ((z + 3 : Nat) : Int) := fun _ => by rw [wI_of (by omega) (by omega)]; push_cast; omega
    have e4 : ∀ _ : Unit, wI ((z : Int) + 1) = ((z + 1 : Nat) : Int) := fun _ => by rw [wI_of (by omega) (by omega)]; push_cast; omega
    have u1 : (am_up M1 54 (z + 40 + d) (4 * x + y)) 54 (z + 2) = M 54 (z + 2) := by rw [up_j (by omega), k54 _ (fun q hq => by omega)]
    have u2 : (am_up M1 54 (z + 40 + d) (4 * x + y)) 54 (z + 3) = M 54 (z + 3) := by rw [up_j (by omega), k54 _ (fun q hq => by omega)]
    rw [XB_X9_goOn_53_5]
    simp only [e0 (), e1 (), e2 (), e3 (), e4 (), Int.toNat_natCast, u1, u2]
    rw [if_pos (by omega), if_pos (by omega), if_pos (by omega), if_pos (by omega), if_pos (by omega), hM2]
  have n53 : M2 53 = M 53 := by rw [hM2, up_a (by decide), up_a (by decide), up_a (by decide), kc 53 (by decide)]
  have n55 : M2 55 = M 55 := by rw [hM2, up_a (by decide), up_a (by decide), up_a (by decide), kc 55 (by decide)]
  have n56 : M2 56 = M 56 := by rw [hM2, up_a (by decide), up_a (by decide), up_a (by decide), kc 56 (by decide)]
  have n54 : ∀ j, j ≠ z + 1 → j ≠ z + 40 + d → j ≠ z + 80 + d → M2 54 j = M1 54 j := fun j q1 q2 q3 => by rw [hM2, up_j q1, up_j q3, up_j q2]
  have n1 : M2 54 (z + 1) = b' := by rw [hM2, up_s]
  have n40 : M2 54 (z + 40 + d) = 4 * x + y := by rw [hM2, up_j (by omega), up_j (by omega), up_s]
  have n80 : M2 54 (z + 80 + d) = 10 * M 54 (z + 2) + M 54 (z + 3) := by rw [hM2, up_j (by omega), up_s]
  have n2 : M2 54 (z + 2) = M 54 (z + 2) := by rw [n54 _ (by omega) (by omega) (by omega), k54 _ (fun q hq => by omega)]
  have n3 : M2 54 (z + 3) = M 54 (z + 3) := by rw [n54 _ (by omega) (by omega) (by omega), k54 _ (fun q hq => by omega)]
  have n0 : M2 54 z = d := by rw [n54 _ (by omega) (by omega) (by omega), k54 _ (fun q hq => by omega), hd]
  have hrow : ∃ f, M2 = am_row M 54 f := by
    refine ⟨M2 54, ?_⟩
    funext a
    by_cases ha : a = 54
    · subst ha; rw [row_s]
    · rw [row_a ha, hM2, up_a ha, up_a ha, up_a ha, kc a ha]
  -- the loop
  have hloop : ∃ L', XL_X9_goOn_53_6 XB_X9_goOn_53_9 1000 z d b' 0 M2 = XB_X9_goOn_53_9 z (am_row M2 54 L') ∧ (∀ q : Nat, (q : Int) < M 53 1 → L' (z + 4 + 3 * q) = M2 54 (z + 4 + 3 * q) + (if d % 10 = 9 then F0 q else 0) ∧ L' (z + 4 + 3 * q + 1) = M2 54 (z + 4 + 3 * q + 1) + (if d % 10 = 9 then F1 q else 0)) ∧ ∀ j, (∀ q : Nat, (q : Int) < M 53 1 → j ≠ z + 4 + 3 * q ∧ j ≠ z + 4 + 3 * q + 1) → L' j = M2 54 j := by
    by_cases ht : d % 10 = 9
    · obtain ⟨L', q1, q2, q3⟩ := lp_tax XB_X9_goOn_53_9 z (by omega) d b' (by omega) (by omega) M hG (M 54 (z + 2)) (M 54 (z + 3)) F0 F1 hP0 hP1 (M 53 1).toNat 1000 M2 0 n53 n55 n56 n2 n3 (by omega) (by omega)
      refine ⟨L', q1, fun q hq => ?_, fun j hj => q3 j (fun q _ hq => hj q hq)⟩
      simp only [if_pos ht]
      exact q2 q (by omega) hq
    · refine ⟨M2 54, ?_, fun q hq => by simp only [if_neg ht, Int.add_zero]; exact ⟨trivial, trivial⟩, fun j _ => rfl⟩
      rw [XL_X9_goOn_53_6, XB_X9_goOn_53_6, wI_0, n53, wI_of (x := M 53 1) (by omega) (by omega), if_pos hs, sp_isTaxed M2 (by omega), b2_f (by omega), ob]
      simp only [wI_0, if_true]
      rw [row_self]
  obtain ⟨L1, hl1, hl2, hl3⟩ := hloop
  obtain ⟨f, hf⟩ := hrow
  have l0 : L1 z = d := by rw [hl3 z (fun q hq => by omega), n0]
  refine ⟨fun j => if j = z then (d : Int) + 1 else L1 j, ?_, by simp, ?_, ?_, ?_, ?_, ?_, fun q hq => ?_, fun j q1 q2 q3 => ?_⟩
  · have e0 : ∀ _ : Unit, wI ((z : Int) + 0) = ((z : Nat) : Int) := fun _ => by rw [wI_of (by omega) (by omega)]; omega
    rw [hstart, hmid, hl1, XB_X9_goOn_53_9]
    simp only [e0 (), Int.toNat_natCast, row_s, l0]
    rw [if_pos (by omega), if_pos (by omega), hf, row_row, up_row, row_row]
    simp only [row_s]
  · show (if z + 1 = z then (d : Int) + 1 else L1 (z + 1)) = b'
    rw [if_neg (by omega), hl3 _ (fun q hq => by omega), n1]
  · show (if z + 2 = z then (d : Int) + 1 else L1 (z + 2)) = _
    rw [if_neg (by omega), hl3 _ (fun q hq => by omega), n2]
  · show (if z + 3 = z then (d : Int) + 1 else L1 (z + 3)) = _
    rw [if_neg (by omega), hl3 _ (fun q hq => by omega), n3]
  · show (if z + 40 + d = z then (d : Int) + 1 else L1 (z + 40 + d)) = _
    rw [if_neg (by omega), hl3 _ (fun q hq => by omega), n40]
  · show (if z + 80 + d = z then (d : Int) + 1 else L1 (z + 80 + d)) = _
    rw [if_neg (by omega), hl3 _ (fun q hq => by omega), n80]
  · have := hl2 q hq
    rw [n54 _ (by omega) (by omega) (by omega), n54 _ (by omega) (by omega) (by omega), k54 _ (fun q' hq' => by omega), k54 _ (fun q' hq' => by omega)] at this
    refine ⟨?_, ?_, ?_⟩
    · show (if z + 4 + 3 * q = z then (d : Int) + 1 else L1 (z + 4 + 3 * q)) = _
      rw [if_neg (by omega)]; exact this.1
    · show (if z + 4 + 3 * q + 1 = z then (d : Int) + 1 else L1 (z + 4 + 3 * q + 1)) = _
      rw [if_neg (by omega)]; exact this.2
    · show (if z + 4 + 3 * q + 2 = z then (d : Int) + 1 else L1 (z + 4 + 3 * q + 2)) = _
      rw [if_neg (by omega), hl3 _ (fun q' hq' => by omega), n54 _ (by omega) (by omega) (by omega), kq q hq]
  · show (if j = z then (d : Int) + 1 else L1 j) = _
    rw [if_neg (by omega), hl3 _ (fun q' hq' => by omega), n54 _ (by omega) q2 q3, k54 _ (fun q' hq' => by omega)]
