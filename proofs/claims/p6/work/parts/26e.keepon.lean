/-! Lands kept, and gone on from. -/
theorem DI_sh {s : Int} {kd du o a b h p L o' a' b' h' p' L' : Nat → Int} {z z' : Nat} (hs : s ≤ 12) (D : DI s kd du o a b h p L z) (ho : o' 0 = o 0 ∧ o' 1 = o 1 ∧ o' 2 = o 2 ∧ o' 3 = o 3) (ha : ∀ j, j < 40 → a' j = a j) (hb : ∀ j, j < 40 → b' j = b j) (hh : ∀ j, j < 41 → h' j = h j) (hp : ∀ j, j < 96 → p' j = p j) (K : KB a' b' h' p') (hL : ∀ j, j < 121 → L' (z' + j) = L (z + j)) : DI s kd du o' a' b' h' p' L' z' := by
  obtain ⟨⟨o1, o2, o3, o4, o5, o6, o7, o8, o9⟩, ⟨s1, s2⟩, ⟨y1, y2, y3, y4, y5⟩, ⟨p1, p2⟩, hT⟩ := D
  obtain ⟨h0, h1, h2, h3⟩ := ho
  have hL' : ∀ j k, j = z' + k → k < 121 → L' j = L (z + k) := fun j k q hk => by rw [q, hL k hk]
  refine ⟨⟨?_, by rw [h0]; exact o2, ?_, by rw [h1]; exact o4, ?_, ?_, by rw [h2]; exact o7, by rw [h3]; exact o8, by rw [h0]; exact o9⟩, ⟨fun j => ⟨(K j).1, (K j).2.1⟩, fun j hj => ?_⟩, ⟨?_, ?_, fun j => (K j).2.2.1, fun j hj => ?_, fun j hj => ?_⟩, ⟨fun j => (K j).2.2.2, fun t i ht hi => ?_⟩, fun i hi => ?_⟩
  · rw [hL' z' 0 (by omega) (by omega), h0]; exact o1
  · rw [hL' (z' + 1) 1 (by omega) (by omega), h1]; exact o3
  · rw [hL' (z' + 2) 2 (by omega) (by omega), h2]; exact o5
  · rw [hL' (z' + 3) 3 (by omega) (by omega), h3]; exact o6
  · rw [h0] at hj
    have := s2 j hj
    rw [hL' (z' + 40 + j) (40 + j) (by omega) (by omega), hL' (z' + 80 + j) (80 + j) (by omega) (by omega), ha j (by omega), hb j (by omega), ← Nat.add_assoc, ← Nat.add_assoc]
    exact this
  · rw [hL' (z' + 120) 120 (by omega) (by omega), hh 0 (by omega)]; exact y1
  · rw [h0, h1, hh _ (by omega)]; exact y2
  · rw [h0] at hj
    rw [hh j (by omega)]; exact y4 j hj
  · rw [h0] at hj
    rw [hh _ (by omega), hh j (by omega), ha j (by omega), hb j (by omega)]; exact y5 j hj
  · rw [h0] at ht
    dsimp only
    have := p2 t i ht hi
    rw [hL' (z' + 80 + (10 * t + 9)) (80 + (10 * t + 9)) (by omega) (by omega), hh _ (by omega), hp _ (by omega), hp _ (by omega), ← Nat.add_assoc z 80]
    exact this
  · have := hT i hi
    have e : ∀ c : Int, tot kd du h' (fun j => L' (z' + 80 + j)) c i (o 0 / 10).toNat = tot kd du h (fun j => L (z + 80 + j)) c i (o 0 / 10).toNat := fun c => tot_c _ (fun j hj => hh j (by omega)) (fun j hj => by rw [hL' (z' + 80 + j) (80 + j) (by omega) (by omega), ← Nat.add_assoc])
    rw [h0, e, e, chg_c _ (fun j hj => hh j (by omega)), hL' (z' + 4 + 3 * i) (4 + 3 * i) (by omega) (by omega), hL' (z' + 4 + 3 * i + 1) (4 + 3 * i + 1) (by omega) (by omega), hL' (z' + 4 + 3 * i + 2) (4 + 3 * i + 2) (by omega) (by omega), show z + (4 + 3 * i) = z + 4 + 3 * i by omega, show z + (4 + 3 * i + 1) = z + 4 + 3 * i + 1 by omega, show z + (4 + 3 * i + 2) = z + 4 + 3 * i + 2 by omega]
    exact this
theorem KpI_k {s : Int} {kd du k k' o a b h p L L' : Nat → Int} {j z : Nat} (hs : s ≤ 12) (D : KpI s kd du k o a b h p L j z) (hk : k' j = k j) (hL : ∀ j, z ≤ j → j < z + 121 → L' j = L j) : KpI s kd du k' o a b h p L' j z := by
  have := KpI_L hs D hL
  unfold KpI at this ⊢
  rw [hk]; exact this
theorem inv_kept {M M' : am_M} (I : Inv M) (hc : ∀ a, (a < 20 ∨ 35 < a) → a ≠ 54 → M' a = M a) (hL : ∀ j, j < 121 → M' 54 j = M 54 j)
    (hK : KpI (M 11 0) (M 12) (M 13) (M' 35) (M' 20) (M' 21) (M' 22) (M' 23) (M' 24) (M' 54) 0 121 ∧ KpI (M 11 0) (M 12) (M 13) (M' 35) (M' 25) (M' 26) (M' 27) (M' 28) (M' 29) (M' 54) 1 242 ∧ KpI (M 11 0) (M 12) (M 13) (M' 35) (M' 30) (M' 31) (M' 32) (M' 33) (M' 34) (M' 54) 2 363) : Inv M' := by
  have hs := I.2.2.2.1.2.2.1
  have d0 := DI_L (L' := M' 54) hs I.2.2.2.2.1 (fun j _ q => hL j (by omega))
  unfold Inv
  rw [hc 0 (by decide) (by decide), hc 1 (by decide) (by decide), hc 2 (by decide) (by decide), hc 3 (by decide) (by decide), hc 4 (by decide) (by decide), hc 5 (by decide) (by decide), hc 6 (by decide) (by decide), hc 9 (by decide) (by decide), hc 10 (by decide) (by decide), hc 11 (by decide) (by decide), hc 12 (by decide) (by decide), hc 13 (by decide) (by decide), hc 14 (by decide) (by decide), hc 15 (by decide) (by decide), hc 16 (by decide) (by decide), hc 17 (by decide) (by decide), hc 18 (by decide) (by decide), hc 52 (by decide) (by decide), hc 53 (by decide) (by decide), hc 55 (by decide) (by decide), hc 56 (by decide) (by decide), hc 57 (by decide) (by decide), hc 58 (by decide) (by decide), hc 59 (by decide) (by decide), hc 60 (by decide) (by decide), hc 61 (by decide) (by decide)]
  exact ⟨I.1, I.2.1, I.2.2.1, I.2.2.2.1, d0, hK, I.2.2.2.2.2.2⟩
theorem cpy_v {f g : Nat → Int} {n j : Nat} : va_cpy f g 0 0 n j = if j < n then f j else g j := by
  unfold va_cpy
  by_cases c : j < n
  · rw [if_pos (by omega), if_pos c]; congr 1; omega
  · rw [if_neg (by omega), if_neg c]
theorem KB_c {a b h p a1 b1 h1 p1 a' b' h' p' : Nat → Int} (K : KB a b h p) (K1 : KB a1 b1 h1 p1) (ha : ∀ j, a' j = if j < 40 then a j else a1 j) (hb : ∀ j, b' j = if j < 40 then b j else b1 j) (hh : ∀ j, h' j = if j < 41 then h j else h1 j) (hp : ∀ j, p' j = if j < 96 then p j else p1 j) : KB a' b' h' p' := fun j => by
  rw [ha, hb, hh, hp]
  have q := K j
  have q1 := K1 j
  refine ⟨?_, ?_, ?_, ?_⟩ <;> split <;> first | exact q.1 | exact q1.1 | exact q.2.1 | exact q1.2.1 | exact q.2.2.1 | exact q1.2.2.1 | exact q.2.2.2 | exact q1.2.2.2
theorem DI.kb {s : Int} {kd du o a b h p L : Nat → Int} {z : Nat} (D : DI s kd du o a b h p L z) : KB a b h p := fun j => ⟨(D.2.1.1 j).1, (D.2.1.1 j).2, D.2.2.1.2.2.1 j, D.2.2.2.1.1 j⟩
theorem sp_carry_14_20 (M : am_M) : ∃ M', X_X1_carry_14_20 M = some (0, M') ∧ (∀ c, (c < 20 ∨ 24 < c) → M' c = M c) ∧ (M' 20 0 = M 14 0 ∧ M' 20 1 = M 14 1 ∧ M' 20 2 = M 14 2 ∧ M' 20 3 = M 14 3) ∧ (∀ j, M' 21 j = if j < 40 then M 15 j else M 21 j) ∧ (∀ j, M' 22 j = if j < 40 then M 16 j else M 22 j) ∧ (∀ j, M' 23 j = if j < 41 then M 17 j else M 23 j) ∧ ∀ j, M' 24 j = if j < 96 then M 18 j else M 24 j := by
  refine ⟨_, rfl, fun c hc => ?_, ⟨rfl, rfl, rfl, rfl⟩, fun j => ?_, fun j => ?_, fun j => ?_, fun j => ?_⟩
  · rw [cpy_a (by omega), cpy_a (by omega), cpy_a (by omega), cpy_a (by omega), up_a (by omega), up_a (by omega), up_a (by omega), up_a (by omega)]
  · rw [cpy_a (by decide), cpy_a (by decide), cpy_a (by decide), cpy_s, cpy_v]; rfl
  · rw [cpy_a (by decide), cpy_a (by decide), cpy_s, cpy_v]; rfl
  · rw [cpy_a (by decide), cpy_s, cpy_v]; rfl
  · rw [cpy_s, cpy_v]; rfl
theorem sp_carry_20_14 (M : am_M) : ∃ M', X_X1_carry_20_14 M = some (0, M') ∧ (∀ c, (c < 14 ∨ 18 < c) → M' c = M c) ∧ (M' 14 0 = M 20 0 ∧ M' 14 1 = M 20 1 ∧ M' 14 2 = M 20 2 ∧ M' 14 3 = M 20 3) ∧ (∀ j, M' 15 j = if j < 40 then M 21 j else M 15 j) ∧ (∀ j, M' 16 j = if j < 40 then M 22 j else M 16 j) ∧ (∀ j, M' 17 j = if j < 41 then M 23 j else M 17 j) ∧ ∀ j, M' 18 j = if j < 96 then M 24 j else M 18 j := by
  refine ⟨_, rfl, fun c hc => ?_, ⟨rfl, rfl, rfl, rfl⟩, fun j => ?_, fun j => ?_, fun j => ?_, fun j => ?_⟩
  · rw [cpy_a (by omega), cpy_a (by omega), cpy_a (by omega), cpy_a (by omega), up_a (by omega), up_a (by omega), up_a (by omega), up_a (by omega)]
  · rw [cpy_a (by decide), cpy_a (by decide), cpy_a (by decide), cpy_s, cpy_v]; rfl
  · rw [cpy_a (by decide), cpy_a (by decide), cpy_s, cpy_v]; rfl
  · rw [cpy_a (by decide), cpy_s, cpy_v]; rfl
  · rw [cpy_s, cpy_v]; rfl
theorem sp_carry_14_25 (M : am_M) : ∃ M', X_X1_carry_14_25 M = some (0, M') ∧ (∀ c, (c < 25 ∨ 29 < c) → M' c = M c) ∧ (M' 25 0 = M 14 0 ∧ M' 25 1 = M 14 1 ∧ M' 25 2 = M 14 2 ∧ M' 25 3 = M 14 3) ∧ (∀ j, M' 26 j = if j < 40 then M 15 j else M 26 j) ∧ (∀ j, M' 27 j = if j < 40 then M 16 j else M 27 j) ∧ (∀ j, M' 28 j = if j < 41 then M 17 j else M 28 j) ∧ ∀ j, M' 29 j = if j < 96 then M 18 j else M 29 j := by
  refine ⟨_, rfl, fun c hc => ?_, ⟨rfl, rfl, rfl, rfl⟩, fun j => ?_, fun j => ?_, fun j => ?_, fun j => ?_⟩
  · rw [cpy_a (by omega), cpy_a (by omega), cpy_a (by omega), cpy_a (by omega), up_a (by omega), up_a (by omega), up_a (by omega), up_a (by omega)]
  · rw [cpy_a (by decide), cpy_a (by decide), cpy_a (by decide), cpy_s, cpy_v]; rfl
  · rw [cpy_a (by decide), cpy_a (by decide), cpy_s, cpy_v]; rfl
  · rw [cpy_a (by decide), cpy_s, cpy_v]; rfl
  · rw [cpy_s, cpy_v]; rfl
theorem sp_carry_25_14 (M : am_M) : ∃ M', X_X1_carry_25_14 M = some (0, M') ∧ (∀ c, (c < 14 ∨ 18 < c) → M' c = M c) ∧ (M' 14 0 = M 25 0 ∧ M' 14 1 = M 25 1 ∧ M' 14 2 = M 25 2 ∧ M' 14 3 = M 25 3) ∧ (∀ j, M' 15 j = if j < 40 then M 26 j else M 15 j) ∧ (∀ j, M' 16 j = if j < 40 then M 27 j else M 16 j) ∧ (∀ j, M' 17 j = if j < 41 then M 28 j else M 17 j) ∧ ∀ j, M' 18 j = if j < 96 then M 29 j else M 18 j := by
  refine ⟨_, rfl, fun c hc => ?_, ⟨rfl, rfl, rfl, rfl⟩, fun j => ?_, fun j => ?_, fun j => ?_, fun j => ?_⟩
  · rw [cpy_a (by omega), cpy_a (by omega), cpy_a (by omega), cpy_a (by omega), up_a (by omega), up_a (by omega), up_a (by omega), up_a (by omega)]
  · rw [cpy_a (by decide), cpy_a (by decide), cpy_a (by decide), cpy_s, cpy_v]; rfl
  · rw [cpy_a (by decide), cpy_a (by decide), cpy_s, cpy_v]; rfl
  · rw [cpy_a (by decide), cpy_s, cpy_v]; rfl
  · rw [cpy_s, cpy_v]; rfl
theorem sp_carry_14_30 (M : am_M) : ∃ M', X_X1_carry_14_30 M = some (0, M') ∧ (∀ c, (c < 30 ∨ 34 < c) → M' c = M c) ∧ (M' 30 0 = M 14 0 ∧ M' 30 1 = M 14 1 ∧ M' 30 2 = M 14 2 ∧ M' 30 3 = M 14 3) ∧ (∀ j, M' 31 j = if j < 40 then M 15 j else M 31 j) ∧ (∀ j, M' 32 j = if j < 40 then M 16 j else M 32 j) ∧ (∀ j, M' 33 j = if j < 41 then M 17 j else M 33 j) ∧ ∀ j, M' 34 j = if j < 96 then M 18 j else M 34 j := by
  refine ⟨_, rfl, fun c hc => ?_, ⟨rfl, rfl, rfl, rfl⟩, fun j => ?_, fun j => ?_, fun j => ?_, fun j => ?_⟩
  · rw [cpy_a (by omega), cpy_a (by omega), cpy_a (by omega), cpy_a (by omega), up_a (by omega), up_a (by omega), up_a (by omega), up_a (by omega)]
  · rw [cpy_a (by decide), cpy_a (by decide), cpy_a (by decide), cpy_s, cpy_v]; rfl
  · rw [cpy_a (by decide), cpy_a (by decide), cpy_s, cpy_v]; rfl
  · rw [cpy_a (by decide), cpy_s, cpy_v]; rfl
  · rw [cpy_s, cpy_v]; rfl
theorem sp_carry_30_14 (M : am_M) : ∃ M', X_X1_carry_30_14 M = some (0, M') ∧ (∀ c, (c < 14 ∨ 18 < c) → M' c = M c) ∧ (M' 14 0 = M 30 0 ∧ M' 14 1 = M 30 1 ∧ M' 14 2 = M 30 2 ∧ M' 14 3 = M 30 3) ∧ (∀ j, M' 15 j = if j < 40 then M 31 j else M 15 j) ∧ (∀ j, M' 16 j = if j < 40 then M 32 j else M 16 j) ∧ (∀ j, M' 17 j = if j < 41 then M 33 j else M 17 j) ∧ ∀ j, M' 18 j = if j < 96 then M 34 j else M 18 j := by
  refine ⟨_, rfl, fun c hc => ?_, ⟨rfl, rfl, rfl, rfl⟩, fun j => ?_, fun j => ?_, fun j => ?_, fun j => ?_⟩
  · rw [cpy_a (by omega), cpy_a (by omega), cpy_a (by omega), cpy_a (by omega), up_a (by omega), up_a (by omega), up_a (by omega), up_a (by omega)]
  · rw [cpy_a (by decide), cpy_a (by decide), cpy_a (by decide), cpy_s, cpy_v]; rfl
  · rw [cpy_a (by decide), cpy_a (by decide), cpy_s, cpy_v]; rfl
  · rw [cpy_a (by decide), cpy_s, cpy_v]; rfl
  · rw [cpy_s, cpy_v]; rfl
theorem keep_0 {M : am_M} (I : Inv M) (h3 : M 11 0 ≠ 0) : Step (X_X8_keep_0 0) (X_X9_keep_53 0) M := by
  have hG := I.g11
  have es := I.es
  have r0 := I.r0
  have rs := I.rs
  obtain ⟨K1, K2, K3⟩ := I.2.2.2.2.2.1
  have D := I.2.2.2.2.1
  obtain ⟨M1, e1, f1, fo, fa, fb, fh, fp⟩ := sp_carry_14_20 M
  obtain ⟨M2, hM2⟩ : ∃ M2, M2 = am_up M1 35 0 (M 14 0) := ⟨_, rfl⟩
  have f2 : ∀ c, (c < 20 ∨ 24 < c) → c ≠ 35 → M2 c = M c := fun c q1 q2 => by rw [hM2, up_a q2, f1 c q1]
  have f3 : ∀ c, c ≠ 35 → M2 c = M1 c := fun c q => by rw [hM2, up_a q]
  have z0 : M1 14 0 = M 14 0 := by rw [f1 14 (by decide)]
  have hc : X_X8_keep_0 0 M = some (M2 14 0, M2) := by
    simp only [X_X8_keep_0, wI_0, if_true, sp_hasNoLand hG, b2_f h3, ob, wI_0, e1, z0]
    rw [if_neg (by decide), if_pos (by decide), if_pos (by decide)]
    simp only [Int.toNat_zero, show (1 : Int).toNat = 1 from rfl, show (2 : Int).toNat = 2 from rfl, ← hM2]
  have cl := sp_copyLand (M := M2) (a := 0) (b := 121) (by omega) (by omega) (by omega)
  rw [show ((0 : Nat) : Int) = 0 from rfl, f2 54 (by decide) (by decide)] at cl
  obtain ⟨L, hL⟩ : ∃ L : Nat → Int, L = fun j => if 121 ≤ j ∧ j < 121 + 121 then M 54 (0 + (j - 121)) else M 54 j := ⟨_, rfl⟩
  rw [← hL] at cl
  have u1 : ∀ j, j < 121 → L (121 + j) = M 54 (0 + j) := fun j hj => by rw [hL]; dsimp only; rw [if_pos (by omega), show 121 + j - 121 = j by omega]
  have u2 : ∀ j, (j < 121 ∨ 121 + 121 ≤ j) → L j = M 54 j := fun j hj => by rw [hL]; dsimp only; rw [if_neg (by omega)]
  have hm : X_X9_keep_53 0 M2 = some (L 0, am_row M2 54 L) := by
    have w53 : M2 53 1 = M 11 0 := by rw [f2 53 (by decide) (by decide)]; exact es
    rw [X_X9_keep_53, show wI 0 = 0 from rfl, sp_in M2 (by unfold iR; omega) i0 i2, b2_t (by decide), ob]
    dsimp only
    rw [if_neg (by decide), if_neg (show ¬ wI (M2 53 1) = 0 by rw [w53, wI_of (x := M 11 0) (by omega) (by omega)]; exact h3), show (121 : Int) * (1 + 0) = ((121 : Nat) : Int) from rfl, cl, ob]
    dsimp only
    rw [row_s]
  refine ⟨_, _, _, _, hc, hm, ?_, ?_⟩
  · rw [f2 14 (by decide) (by decide), u2 0 (by omega), I.d0]
  · refine inv_kept I (fun a h1 h2 => by rw [row_a h2, f2 a (by omega) (by omega)]) (fun j hj => by rw [row_s, u2 j (by omega)]) ?_
    simp only [row_s, row_a (show 20 ≠ 54 by decide), row_a (show 21 ≠ 54 by decide), row_a (show 22 ≠ 54 by decide), row_a (show 23 ≠ 54 by decide), row_a (show 24 ≠ 54 by decide), row_a (show 25 ≠ 54 by decide), row_a (show 26 ≠ 54 by decide), row_a (show 27 ≠ 54 by decide), row_a (show 28 ≠ 54 by decide), row_a (show 29 ≠ 54 by decide), row_a (show 30 ≠ 54 by decide), row_a (show 31 ≠ 54 by decide), row_a (show 32 ≠ 54 by decide), row_a (show 33 ≠ 54 by decide), row_a (show 34 ≠ 54 by decide), row_a (show 35 ≠ 54 by decide)]
    have k35 : ∀ j, j ≠ 0 → M2 35 j = M 35 j := fun j q => by rw [hM2, up_j q, f1 35 (by decide)]
    have k35s : M2 35 0 = M 14 0 := by rw [hM2, up_s]
    have KB2 : KB (M2 21) (M2 22) (M2 23) (M2 24) := by
      refine KB_c D.kb K1.2.2.2.2 ?_ ?_ ?_ ?_
      · intro j; rw [f3 21 (by decide)]; exact fa j
      · intro j; rw [f3 22 (by decide)]; exact fb j
      · intro j; rw [f3 23 (by decide)]; exact fh j
      · intro j; rw [f3 24 (by decide)]; exact fp j
    have KN : KpI (M 11 0) (M 12) (M 13) (M2 35) (M2 20) (M2 21) (M2 22) (M2 23) (M2 24) L 0 121 := by
      refine ⟨?_, ?_, ?_, fun _ => ⟨?_, ?_⟩, KB2⟩
      · have := u1 0 (by omega)
        rw [k35s]; exact this.trans I.d0
      · rw [k35s]; omega
      · rw [k35s]; omega
      · rw [k35s, f3 20 (by decide)]; exact fo.1
      · refine DI_sh rs.2 D ?_ ?_ ?_ ?_ ?_ KB2 u1
        · rw [f3 20 (by decide)]; exact fo
        · intro j hj; rw [f3 21 (by decide), fa, if_pos hj]
        · intro j hj; rw [f3 22 (by decide), fb, if_pos hj]
        · intro j hj; rw [f3 23 (by decide), fh, if_pos hj]
        · intro j hj; rw [f3 24 (by decide), fp, if_pos hj]
    refine ⟨KN, by rw [f2 25 (by decide) (by decide), f2 26 (by decide) (by decide), f2 27 (by decide) (by decide), f2 28 (by decide) (by decide), f2 29 (by decide) (by decide)]; exact KpI_k rs.2 K2 (k35 1 (by decide)) (fun j h1 h2 => u2 j (by omega)), by rw [f2 30 (by decide) (by decide), f2 31 (by decide) (by decide), f2 32 (by decide) (by decide), f2 33 (by decide) (by decide), f2 34 (by decide) (by decide)]; exact KpI_k rs.2 K3 (k35 2 (by decide)) (fun j h1 h2 => u2 j (by omega))⟩
theorem on_0 {M : am_M} (I : Inv M) (h0 : 0 ≤ M 35 0) : Step (X_X8_on_0 0) (X_X9_on_53 0) M := by
  have rs := I.rs
  have K := I.2.2.2.2.2.1.1
  obtain ⟨kz, kl, kh, kD, kB⟩ := K
  obtain ⟨ko, kD⟩ := kD h0
  have D := I.2.2.2.2.1
  obtain ⟨M1, e1, f1, fo, fa, fb, fh, fp⟩ := sp_carry_20_14 M
  have hc : X_X8_on_0 0 M = some (M1 14 0, M1) := by
    simp only [X_X8_on_0, wI_0, if_true, Int.toNat_zero, show (1 : Int).toNat = 1 from rfl, show (2 : Int).toNat = 2 from rfl, wI_of (x := M 35 0) (by omega) (by omega), e1, ob]
    rw [if_neg (by decide), if_pos (by decide), if_pos (by decide), if_neg (by omega)]
  have cl := sp_copyLand (M := M1) (a := 121) (b := 0) (by omega) (by omega) (by omega)
  rw [show ((0 : Nat) : Int) = 0 from rfl, f1 54 (by decide)] at cl
  obtain ⟨L, hL⟩ : ∃ L : Nat → Int, L = fun j => if 0 ≤ j ∧ j < 0 + 121 then M 54 (121 + (j - 0)) else M 54 j := ⟨_, rfl⟩
  rw [← hL] at cl
  have u1 : ∀ j, j < 121 → L (0 + j) = M 54 (121 + j) := fun j hj => by rw [hL]; dsimp only; rw [if_pos (by omega), show 0 + j - 0 = j by omega]
  have u2 : ∀ j, 121 ≤ j → L j = M 54 j := fun j hj => by rw [hL]; dsimp only; rw [if_neg (by omega)]
  have hm : X_X9_on_53 0 M1 = some (L 0, am_row M1 54 L) := by
    have e0 : ∀ _ : Unit, wI ((121 : Int) * (1 + 0) + 0) = ((121 : Nat) : Int) := fun _ => rfl
    have w54 : M1 54 121 = M 35 0 := by rw [f1 54 (by decide)]; exact kz
    rw [X_X9_on_53, show wI 0 = 0 from rfl, sp_in M1 (by unfold iR; omega) i0 i2, b2_t (by decide), ob]
    dsimp only
    rw [if_neg (by decide), e0 (), Int.toNat_natCast, if_pos (by omega), if_neg (show ¬ wI (M1 54 121) < 0 by rw [w54, wI_of (x := M 35 0) (by omega) (by omega)]; omega), show (121 : Int) * (1 + 0) = ((121 : Nat) : Int) from rfl, cl, ob]
    dsimp only
    rw [row_s]
  refine ⟨_, _, _, _, hc, hm, ?_, ?_⟩
  · rw [fo.1, ko, show L 0 = M 54 121 from u1 0 (by omega), kz]
  · refine inv_days I (fun a h1 h2 h3 h4 h5 h6 => by rw [row_a h6, f1 a (by omega)]) (fun j h1 h2 => by rw [row_s, u2 j h1]) ?_
    rw [row_a (by decide), row_a (by decide), row_a (by decide), row_a (by decide), row_a (by decide), row_s]
    refine DI_sh rs.2 kD fo ?_ ?_ ?_ ?_ ?_ u1
    · intro j hj; rw [fa, if_pos hj]
    · intro j hj; rw [fb, if_pos hj]
    · intro j hj; rw [fh, if_pos hj]
    · intro j hj; rw [fp, if_pos hj]
    · exact KB_c kB D.kb fa fb fh fp
theorem keep_1 {M : am_M} (I : Inv M) (h3 : M 11 0 ≠ 0) : Step (X_X8_keep_0 1) (X_X9_keep_53 1) M := by
  have hG := I.g11
  have es := I.es
  have r0 := I.r0
  have rs := I.rs
  obtain ⟨K1, K2, K3⟩ := I.2.2.2.2.2.1
  have D := I.2.2.2.2.1
  obtain ⟨M1, e1, f1, fo, fa, fb, fh, fp⟩ := sp_carry_14_25 M
  obtain ⟨M2, hM2⟩ : ∃ M2, M2 = am_up M1 35 1 (M 14 0) := ⟨_, rfl⟩
  have f2 : ∀ c, (c < 25 ∨ 29 < c) → c ≠ 35 → M2 c = M c := fun c q1 q2 => by rw [hM2, up_a q2, f1 c q1]
  have f3 : ∀ c, c ≠ 35 → M2 c = M1 c := fun c q => by rw [hM2, up_a q]
  have z0 : M1 14 0 = M 14 0 := by rw [f1 14 (by decide)]
  have hc : X_X8_keep_0 1 M = some (M2 14 0, M2) := by
    simp only [X_X8_keep_0, show wI 1 = 1 from rfl, show ((1 : Int) = 0) = False by simp, show ((1 : Int) = 0 + 1) = True by simp, if_false, if_true, sp_hasNoLand hG, b2_f h3, ob, wI_0, e1, z0]
    rw [if_neg (by decide), if_pos (by decide), if_pos (by decide)]
    simp only [Int.toNat_zero, show (1 : Int).toNat = 1 from rfl, show (2 : Int).toNat = 2 from rfl, ← hM2]
  have cl := sp_copyLand (M := M2) (a := 0) (b := 242) (by omega) (by omega) (by omega)
  rw [show ((0 : Nat) : Int) = 0 from rfl, f2 54 (by decide) (by decide)] at cl
  obtain ⟨L, hL⟩ : ∃ L : Nat → Int, L = fun j => if 242 ≤ j ∧ j < 242 + 121 then M 54 (0 + (j - 242)) else M 54 j := ⟨_, rfl⟩
  rw [← hL] at cl
  have u1 : ∀ j, j < 121 → L (242 + j) = M 54 (0 + j) := fun j hj => by rw [hL]; dsimp only; rw [if_pos (by omega), show 242 + j - 242 = j by omega]
  have u2 : ∀ j, (j < 242 ∨ 242 + 121 ≤ j) → L j = M 54 j := fun j hj => by rw [hL]; dsimp only; rw [if_neg (by omega)]
  have hm : X_X9_keep_53 1 M2 = some (L 0, am_row M2 54 L) := by
    have w53 : M2 53 1 = M 11 0 := by rw [f2 53 (by decide) (by decide)]; exact es
    rw [X_X9_keep_53, show wI 1 = 1 from rfl, sp_in M2 (by unfold iR; omega) i0 i2, b2_t (by decide), ob]
    dsimp only
    rw [if_neg (by decide), if_neg (show ¬ wI (M2 53 1) = 0 by rw [w53, wI_of (x := M 11 0) (by omega) (by omega)]; exact h3), show (121 : Int) * (1 + 1) = ((242 : Nat) : Int) from rfl, cl, ob]
    dsimp only
    rw [row_s]
  refine ⟨_, _, _, _, hc, hm, ?_, ?_⟩
  · rw [f2 14 (by decide) (by decide), u2 0 (by omega), I.d0]
  · refine inv_kept I (fun a h1 h2 => by rw [row_a h2, f2 a (by omega) (by omega)]) (fun j hj => by rw [row_s, u2 j (by omega)]) ?_
    simp only [row_s, row_a (show 20 ≠ 54 by decide), row_a (show 21 ≠ 54 by decide), row_a (show 22 ≠ 54 by decide), row_a (show 23 ≠ 54 by decide), row_a (show 24 ≠ 54 by decide), row_a (show 25 ≠ 54 by decide), row_a (show 26 ≠ 54 by decide), row_a (show 27 ≠ 54 by decide), row_a (show 28 ≠ 54 by decide), row_a (show 29 ≠ 54 by decide), row_a (show 30 ≠ 54 by decide), row_a (show 31 ≠ 54 by decide), row_a (show 32 ≠ 54 by decide), row_a (show 33 ≠ 54 by decide), row_a (show 34 ≠ 54 by decide), row_a (show 35 ≠ 54 by decide)]
    have k35 : ∀ j, j ≠ 1 → M2 35 j = M 35 j := fun j q => by rw [hM2, up_j q, f1 35 (by decide)]
    have k35s : M2 35 1 = M 14 0 := by rw [hM2, up_s]
    have KB2 : KB (M2 26) (M2 27) (M2 28) (M2 29) := by
      refine KB_c D.kb K2.2.2.2.2 ?_ ?_ ?_ ?_
      · intro j; rw [f3 26 (by decide)]; exact fa j
      · intro j; rw [f3 27 (by decide)]; exact fb j
      · intro j; rw [f3 28 (by decide)]; exact fh j
      · intro j; rw [f3 29 (by decide)]; exact fp j
    have KN : KpI (M 11 0) (M 12) (M 13) (M2 35) (M2 25) (M2 26) (M2 27) (M2 28) (M2 29) L 1 242 := by
      refine ⟨?_, ?_, ?_, fun _ => ⟨?_, ?_⟩, KB2⟩
      · have := u1 0 (by omega)
        rw [k35s]; exact this.trans I.d0
      · rw [k35s]; omega
      · rw [k35s]; omega
      · rw [k35s, f3 25 (by decide)]; exact fo.1
      · refine DI_sh rs.2 D ?_ ?_ ?_ ?_ ?_ KB2 u1
        · rw [f3 25 (by decide)]; exact fo
        · intro j hj; rw [f3 26 (by decide), fa, if_pos hj]
        · intro j hj; rw [f3 27 (by decide), fb, if_pos hj]
        · intro j hj; rw [f3 28 (by decide), fh, if_pos hj]
        · intro j hj; rw [f3 29 (by decide), fp, if_pos hj]
    refine ⟨by rw [f2 20 (by decide) (by decide), f2 21 (by decide) (by decide), f2 22 (by decide) (by decide), f2 23 (by decide) (by decide), f2 24 (by decide) (by decide)]; exact KpI_k rs.2 K1 (k35 0 (by decide)) (fun j h1 h2 => u2 j (by omega)), KN, by rw [f2 30 (by decide) (by decide), f2 31 (by decide) (by decide), f2 32 (by decide) (by decide), f2 33 (by decide) (by decide), f2 34 (by decide) (by decide)]; exact KpI_k rs.2 K3 (k35 2 (by decide)) (fun j h1 h2 => u2 j (by omega))⟩
theorem on_1 {M : am_M} (I : Inv M) (h0 : 0 ≤ M 35 1) : Step (X_X8_on_0 1) (X_X9_on_53 1) M := by
  have rs := I.rs
  have K := I.2.2.2.2.2.1.2.1
  obtain ⟨kz, kl, kh, kD, kB⟩ := K
  obtain ⟨ko, kD⟩ := kD h0
  have D := I.2.2.2.2.1
  obtain ⟨M1, e1, f1, fo, fa, fb, fh, fp⟩ := sp_carry_25_14 M
  have hc : X_X8_on_0 1 M = some (M1 14 0, M1) := by
    simp only [X_X8_on_0, show wI 1 = 1 from rfl, show ((1 : Int) = 0) = False by simp, show ((1 : Int) = 0 + 1) = True by simp, if_false, if_true, Int.toNat_zero, show (1 : Int).toNat = 1 from rfl, show (2 : Int).toNat = 2 from rfl, wI_of (x := M 35 1) (by omega) (by omega), e1, ob]
    rw [if_neg (by decide), if_pos (by decide), if_pos (by decide), if_neg (by omega)]
  have cl := sp_copyLand (M := M1) (a := 242) (b := 0) (by omega) (by omega) (by omega)
  rw [show ((0 : Nat) : Int) = 0 from rfl, f1 54 (by decide)] at cl
  obtain ⟨L, hL⟩ : ∃ L : Nat → Int, L = fun j => if 0 ≤ j ∧ j < 0 + 121 then M 54 (242 + (j - 0)) else M 54 j := ⟨_, rfl⟩
  rw [← hL] at cl
  have u1 : ∀ j, j < 121 → L (0 + j) = M 54 (242 + j) := fun j hj => by rw [hL]; dsimp only; rw [if_pos (by omega), show 0 + j - 0 = j by omega]
  have u2 : ∀ j, 121 ≤ j → L j = M 54 j := fun j hj => by rw [hL]; dsimp only; rw [if_neg (by omega)]
  have hm : X_X9_on_53 1 M1 = some (L 0, am_row M1 54 L) := by
    have e0 : ∀ _ : Unit, wI ((121 : Int) * (1 + 1) + 0) = ((242 : Nat) : Int) := fun _ => rfl
    have w54 : M1 54 242 = M 35 1 := by rw [f1 54 (by decide)]; exact kz
    rw [X_X9_on_53, show wI 1 = 1 from rfl, sp_in M1 (by unfold iR; omega) i0 i2, b2_t (by decide), ob]
    dsimp only
    rw [if_neg (by decide), e0 (), Int.toNat_natCast, if_pos (by omega), if_neg (show ¬ wI (M1 54 242) < 0 by rw [w54, wI_of (x := M 35 1) (by omega) (by omega)]; omega), show (121 : Int) * (1 + 1) = ((242 : Nat) : Int) from rfl, cl, ob]
    dsimp only
    rw [row_s]
  refine ⟨_, _, _, _, hc, hm, ?_, ?_⟩
  · rw [fo.1, ko, show L 0 = M 54 242 from u1 0 (by omega), kz]
  · refine inv_days I (fun a h1 h2 h3 h4 h5 h6 => by rw [row_a h6, f1 a (by omega)]) (fun j h1 h2 => by rw [row_s, u2 j h1]) ?_
    rw [row_a (by decide), row_a (by decide), row_a (by decide), row_a (by decide), row_a (by decide), row_s]
    refine DI_sh rs.2 kD fo ?_ ?_ ?_ ?_ ?_ u1
    · intro j hj; rw [fa, if_pos hj]
    · intro j hj; rw [fb, if_pos hj]
    · intro j hj; rw [fh, if_pos hj]
    · intro j hj; rw [fp, if_pos hj]
    · exact KB_c kB D.kb fa fb fh fp
theorem keep_2 {M : am_M} (I : Inv M) (h3 : M 11 0 ≠ 0) : Step (X_X8_keep_0 2) (X_X9_keep_53 2) M := by
  have hG := I.g11
  have es := I.es
  have r0 := I.r0
  have rs := I.rs
  obtain ⟨K1, K2, K3⟩ := I.2.2.2.2.2.1
  have D := I.2.2.2.2.1
  obtain ⟨M1, e1, f1, fo, fa, fb, fh, fp⟩ := sp_carry_14_30 M
  obtain ⟨M2, hM2⟩ : ∃ M2, M2 = am_up M1 35 2 (M 14 0) := ⟨_, rfl⟩
  have f2 : ∀ c, (c < 30 ∨ 34 < c) → c ≠ 35 → M2 c = M c := fun c q1 q2 => by rw [hM2, up_a q2, f1 c q1]
  have f3 : ∀ c, c ≠ 35 → M2 c = M1 c := fun c q => by rw [hM2, up_a q]
  have z0 : M1 14 0 = M 14 0 := by rw [f1 14 (by decide)]
  have hc : X_X8_keep_0 2 M = some (M2 14 0, M2) := by
    simp only [X_X8_keep_0, show wI 2 = 2 from rfl, show ((2 : Int) = 0) = False by simp, show ((2 : Int) = 0 + 1) = False by simp, show ((2 : Int) = 0 + 1 + 1) = True by simp, if_false, if_true, sp_hasNoLand hG, b2_f h3, ob, wI_0, e1, z0]
    rw [if_neg (by decide), if_pos (by decide), if_pos (by decide)]
    simp only [Int.toNat_zero, show (1 : Int).toNat = 1 from rfl, show (2 : Int).toNat = 2 from rfl, ← hM2]
  have cl := sp_copyLand (M := M2) (a := 0) (b := 363) (by omega) (by omega) (by omega)
  rw [show ((0 : Nat) : Int) = 0 from rfl, f2 54 (by decide) (by decide)] at cl
  obtain ⟨L, hL⟩ : ∃ L : Nat → Int, L = fun j => if 363 ≤ j ∧ j < 363 + 121 then M 54 (0 + (j - 363)) else M 54 j := ⟨_, rfl⟩
  rw [← hL] at cl
  have u1 : ∀ j, j < 121 → L (363 + j) = M 54 (0 + j) := fun j hj => by rw [hL]; dsimp only; rw [if_pos (by omega), show 363 + j - 363 = j by omega]
  have u2 : ∀ j, (j < 363 ∨ 363 + 121 ≤ j) → L j = M 54 j := fun j hj => by rw [hL]; dsimp only; rw [if_neg (by omega)]
  have hm : X_X9_keep_53 2 M2 = some (L 0, am_row M2 54 L) := by
    have w53 : M2 53 1 = M 11 0 := by rw [f2 53 (by decide) (by decide)]; exact es
    rw [X_X9_keep_53, show wI 2 = 2 from rfl, sp_in M2 (by unfold iR; omega) i0 i2, b2_t (by decide), ob]
    dsimp only
    rw [if_neg (by decide), if_neg (show ¬ wI (M2 53 1) = 0 by rw [w53, wI_of (x := M 11 0) (by omega) (by omega)]; exact h3), show (121 : Int) * (1 + 2) = ((363 : Nat) : Int) from rfl, cl, ob]
    dsimp only
    rw [row_s]
  refine ⟨_, _, _, _, hc, hm, ?_, ?_⟩
  · rw [f2 14 (by decide) (by decide), u2 0 (by omega), I.d0]
  · refine inv_kept I (fun a h1 h2 => by rw [row_a h2, f2 a (by omega) (by omega)]) (fun j hj => by rw [row_s, u2 j (by omega)]) ?_
    simp only [row_s, row_a (show 20 ≠ 54 by decide), row_a (show 21 ≠ 54 by decide), row_a (show 22 ≠ 54 by decide), row_a (show 23 ≠ 54 by decide), row_a (show 24 ≠ 54 by decide), row_a (show 25 ≠ 54 by decide), row_a (show 26 ≠ 54 by decide), row_a (show 27 ≠ 54 by decide), row_a (show 28 ≠ 54 by decide), row_a (show 29 ≠ 54 by decide), row_a (show 30 ≠ 54 by decide), row_a (show 31 ≠ 54 by decide), row_a (show 32 ≠ 54 by decide), row_a (show 33 ≠ 54 by decide), row_a (show 34 ≠ 54 by decide), row_a (show 35 ≠ 54 by decide)]
    have k35 : ∀ j, j ≠ 2 → M2 35 j = M 35 j := fun j q => by rw [hM2, up_j q, f1 35 (by decide)]
    have k35s : M2 35 2 = M 14 0 := by rw [hM2, up_s]
    have KB2 : KB (M2 31) (M2 32) (M2 33) (M2 34) := by
      refine KB_c D.kb K3.2.2.2.2 ?_ ?_ ?_ ?_
      · intro j; rw [f3 31 (by decide)]; exact fa j
      · intro j; rw [f3 32 (by decide)]; exact fb j
      · intro j; rw [f3 33 (by decide)]; exact fh j
      · intro j; rw [f3 34 (by decide)]; exact fp j
    have KN : KpI (M 11 0) (M 12) (M 13) (M2 35) (M2 30) (M2 31) (M2 32) (M2 33) (M2 34) L 2 363 := by
      refine ⟨?_, ?_, ?_, fun _ => ⟨?_, ?_⟩, KB2⟩
      · have := u1 0 (by omega)
        rw [k35s]; exact this.trans I.d0
      · rw [k35s]; omega
      · rw [k35s]; omega
      · rw [k35s, f3 30 (by decide)]; exact fo.1
      · refine DI_sh rs.2 D ?_ ?_ ?_ ?_ ?_ KB2 u1
        · rw [f3 30 (by decide)]; exact fo
        · intro j hj; rw [f3 31 (by decide), fa, if_pos hj]
        · intro j hj; rw [f3 32 (by decide), fb, if_pos hj]
        · intro j hj; rw [f3 33 (by decide), fh, if_pos hj]
        · intro j hj; rw [f3 34 (by decide), fp, if_pos hj]
    refine ⟨by rw [f2 20 (by decide) (by decide), f2 21 (by decide) (by decide), f2 22 (by decide) (by decide), f2 23 (by decide) (by decide), f2 24 (by decide) (by decide)]; exact KpI_k rs.2 K1 (k35 0 (by decide)) (fun j h1 h2 => u2 j (by omega)), by rw [f2 25 (by decide) (by decide), f2 26 (by decide) (by decide), f2 27 (by decide) (by decide), f2 28 (by decide) (by decide), f2 29 (by decide) (by decide)]; exact KpI_k rs.2 K2 (k35 1 (by decide)) (fun j h1 h2 => u2 j (by omega)), KN⟩
theorem on_2 {M : am_M} (I : Inv M) (h0 : 0 ≤ M 35 2) : Step (X_X8_on_0 2) (X_X9_on_53 2) M := by
  have rs := I.rs
  have K := I.2.2.2.2.2.1.2.2
  obtain ⟨kz, kl, kh, kD, kB⟩ := K
  obtain ⟨ko, kD⟩ := kD h0
  have D := I.2.2.2.2.1
  obtain ⟨M1, e1, f1, fo, fa, fb, fh, fp⟩ := sp_carry_30_14 M
  have hc : X_X8_on_0 2 M = some (M1 14 0, M1) := by
    simp only [X_X8_on_0, show wI 2 = 2 from rfl, show ((2 : Int) = 0) = False by simp, show ((2 : Int) = 0 + 1) = False by simp, show ((2 : Int) = 0 + 1 + 1) = True by simp, if_false, if_true, Int.toNat_zero, show (1 : Int).toNat = 1 from rfl, show (2 : Int).toNat = 2 from rfl, wI_of (x := M 35 2) (by omega) (by omega), e1, ob]
    rw [if_neg (by decide), if_pos (by decide), if_pos (by decide), if_neg (by omega)]
  have cl := sp_copyLand (M := M1) (a := 363) (b := 0) (by omega) (by omega) (by omega)
  rw [show ((0 : Nat) : Int) = 0 from rfl, f1 54 (by decide)] at cl
  obtain ⟨L, hL⟩ : ∃ L : Nat → Int, L = fun j => if 0 ≤ j ∧ j < 0 + 121 then M 54 (363 + (j - 0)) else M 54 j := ⟨_, rfl⟩
  rw [← hL] at cl
  have u1 : ∀ j, j < 121 → L (0 + j) = M 54 (363 + j) := fun j hj => by rw [hL]; dsimp only; rw [if_pos (by omega), show 0 + j - 0 = j by omega]
  have u2 : ∀ j, 121 ≤ j → L j = M 54 j := fun j hj => by rw [hL]; dsimp only; rw [if_neg (by omega)]
  have hm : X_X9_on_53 2 M1 = some (L 0, am_row M1 54 L) := by
    have e0 : ∀ _ : Unit, wI ((121 : Int) * (1 + 2) + 0) = ((363 : Nat) : Int) := fun _ => rfl
    have w54 : M1 54 363 = M 35 2 := by rw [f1 54 (by decide)]; exact kz
    rw [X_X9_on_53, show wI 2 = 2 from rfl, sp_in M1 (by unfold iR; omega) i0 i2, b2_t (by decide), ob]
    dsimp only
    rw [if_neg (by decide), e0 (), Int.toNat_natCast, if_pos (by omega), if_neg (show ¬ wI (M1 54 363) < 0 by rw [w54, wI_of (x := M 35 2) (by omega) (by omega)]; omega), show (121 : Int) * (1 + 2) = ((363 : Nat) : Int) from rfl, cl, ob]
    dsimp only
    rw [row_s]
  refine ⟨_, _, _, _, hc, hm, ?_, ?_⟩
  · rw [fo.1, ko, show L 0 = M 54 363 from u1 0 (by omega), kz]
  · refine inv_days I (fun a h1 h2 h3 h4 h5 h6 => by rw [row_a h6, f1 a (by omega)]) (fun j h1 h2 => by rw [row_s, u2 j h1]) ?_
    rw [row_a (by decide), row_a (by decide), row_a (by decide), row_a (by decide), row_a (by decide), row_s]
    refine DI_sh rs.2 kD fo ?_ ?_ ?_ ?_ ?_ u1
    · intro j hj; rw [fa, if_pos hj]
    · intro j hj; rw [fb, if_pos hj]
    · intro j hj; rw [fh, if_pos hj]
    · intro j hj; rw [fp, if_pos hj]
    · exact KB_c kB D.kb fa fb fh fp
theorem eq_keep {M : am_M} (I : Inv M) {k : Int} (hk : iR k) : Step (X_X8_keep_0 k) (X_X9_keep_53 k) M := gd_keep I hk fun h1 h2 => by
  rcases (show k = 0 ∨ k = 1 ∨ k = 2 by omega) with rfl | rfl | rfl
  · exact keep_0 I h2
  · exact keep_1 I h2
  · exact keep_2 I h2
theorem eq_on {M : am_M} (I : Inv M) {k : Int} (hk : iR k) : Step (X_X8_on_0 k) (X_X9_on_53 k) M := gd_on I hk fun h1 h2 => by
  rcases (show k = 0 ∨ k = 1 ∨ k = 2 by omega) with rfl | rfl | rfl
  · exact on_0 I h2
  · exact on_1 I h2
  · exact on_2 I h2
