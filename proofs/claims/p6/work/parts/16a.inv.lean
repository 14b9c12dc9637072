/-! What holds between the class and the reference, between any two calls. -/
noncomputable def tot (kd du h R : Nat → Int) (c : Int) (i : Nat) : Nat → Int
  | 0 => 0
  | t + 1 => tot kd du h R c i t + due kd du c i (h (10 * t + 10)) (if c = 0 then R (10 * t + 9) / 10 else R (10 * t + 9) % 10)
noncomputable def chg (h : Nat → Int) (i : Int) : Nat → Int
  | 0 => 0
  | n + 1 => chg h i n + (if crw i (h n) = crw i (h (n + 1)) then 0 else 1)
noncomputable def CnI (a1 a4 : Nat → Int) : Prop := a1 0 = 6 ∧ a1 1 = 40 ∧ a1 2 = 0 ∧ a4 0 = 4 ∧ a4 1 = 60 ∧ a4 2 = 32
noncomputable def RwI (a2 a3 a57 a58 : Nat → Int) : Prop := a57 = a2 ∧ (∀ r, -1 ≤ a2 r ∧ a2 r ≤ 40) ∧ (∀ j, iR (a3 j)) ∧ ∀ r i : Nat, r < 6 → (i : Int) < a2 r → a58 (40 * r + i) = a3 (40 * r + i)
noncomputable def TxI (a5 a6 a59 a60 : Nat → Int) : Prop := a59 = a5 ∧ (∀ r, -1 ≤ a5 r ∧ a5 r ≤ 60) ∧ (∀ j, -128 ≤ a6 j ∧ a6 j ≤ 127) ∧ ∀ r i : Nat, r < 4 → (i : Int) < a5 r → a60 (60 * r + i) = a6 (60 * r + i)
noncomputable def GrI (a9 a10 : Nat → Int) (s : Int) (kd du : Nat → Int) (s' : Int) (kd' du' : Nat → Int) : Prop := s' = s ∧ (s = 0 ∨ 2 ≤ s) ∧ s ≤ 12 ∧ (∀ i, 0 ≤ kd i ∧ kd i ≤ 5) ∧ (∀ i, 0 ≤ du i ∧ du i ≤ 9) ∧ (∀ i, 0 ≤ kd' i ∧ kd' i ≤ 5) ∧ (∀ i, 0 ≤ du' i ∧ du' i ≤ 9) ∧ (∀ i : Nat, (i : Int) < s → kd' i = kd i ∧ du' i = du i) ∧ (∀ i, 0 ≤ a9 i ∧ a9 i ≤ 5) ∧ (∀ i, 0 ≤ a10 i ∧ a10 i ≤ 9)
/-- days: the numbers o, what was said a b, the border ahead h, the rates of each day R -/
noncomputable def DyO (s : Int) (o L : Nat → Int) (z : Nat) : Prop := L z = o 0 ∧ (0 ≤ o 0 ∧ o 0 ≤ 40) ∧ L (z + 1) = o 1 ∧ (0 ≤ o 1 ∧ o 1 ≤ s) ∧ L (z + 2) = o 2 ∧ L (z + 3) = o 3 ∧ (0 ≤ o 2 ∧ o 2 ≤ 9) ∧ (0 ≤ o 3 ∧ o 3 ≤ 9) ∧ (s = 0 → o 0 = 0)
noncomputable def DyS (d : Int) (a b L : Nat → Int) (z : Nat) : Prop := (∀ j, (0 ≤ a j ∧ a j ≤ 3) ∧ (0 ≤ b j ∧ b j ≤ 3)) ∧ ∀ j : Nat, (j : Int) < d → L (z + 40 + j) = 4 * a j + b j ∧ 0 ≤ L (z + 80 + j) ∧ L (z + 80 + j) ≤ 99
noncomputable def DyH (s : Int) (kd : Nat → Int) (d e : Int) (a b h : Nat → Int) (f : Int) : Prop := h 0 = f ∧ h d.toNat = e ∧ (∀ j, 0 ≤ h j ∧ h j ≤ 12) ∧ (∀ j : Nat, (j : Int) ≤ d → h j ≤ s) ∧ ∀ j : Nat, (j : Int) < d → h (j + 1) = aft s kd (h j) j (a j) (b j)
noncomputable def DyP (s : Int) (kd du : Nat → Int) (d : Int) (h p R : Nat → Int) : Prop := (∀ j, 0 ≤ p j ∧ p j ≤ 162) ∧ ∀ t i : Nat, 10 * (t : Int) + 10 ≤ d → (i : Int) < s → p ((t * 12 + i) * 2) = due kd du 0 i (h (10 * t + 10)) (R (10 * t + 9) / 10) ∧ p ((t * 12 + i) * 2 + 1) = due kd du 1 i (h (10 * t + 10)) (R (10 * t + 9) % 10)
noncomputable def DyT (s : Int) (kd du : Nat → Int) (d : Int) (h L : Nat → Int) (z : Nat) : Prop := ∀ i : Nat, (i : Int) < s → L (z + 4 + 3 * i) = tot kd du h (fun j => L (z + 80 + j)) 0 i (d / 10).toNat ∧ L (z + 4 + 3 * i + 1) = tot kd du h (fun j => L (z + 80 + j)) 1 i (d / 10).toNat ∧ L (z + 4 + 3 * i + 2) = chg h i d.toNat
noncomputable def DI (s : Int) (kd du o a b h p L : Nat → Int) (z : Nat) : Prop := DyO s o L z ∧ DyS (o 0) a b L z ∧ DyH s kd (o 0) (o 1) a b h (L (z + 120)) ∧ DyP s kd du (o 0) h p (fun j => L (z + 80 + j)) ∧ DyT s kd du (o 0) h L z
/-- what holds of a kept land's rows, kept or not -/
noncomputable def KB (a b h p : Nat → Int) : Prop := ∀ j, (0 ≤ a j ∧ a j ≤ 3) ∧ (0 ≤ b j ∧ b j ≤ 3) ∧ (0 ≤ h j ∧ h j ≤ 12) ∧ 0 ≤ p j ∧ p j ≤ 162
noncomputable def KpI (s : Int) (kd du k : Nat → Int) (o a b h p L : Nat → Int) (j z : Nat) : Prop := L z = k j ∧ -1 ≤ k j ∧ k j ≤ 40 ∧ (0 ≤ k j → o 0 = k j ∧ DI s kd du o a b h p L z) ∧ KB a b h p
noncomputable def TlI (x f m f' : Nat → Int) : Prop := m 11 = x 12 ∧ m 8 = x 13 ∧ m 9 = x 14 ∧ m 10 = x 15 ∧ f' = f
noncomputable def Inv (M : am_M) : Prop := CnI (M 1) (M 4) ∧ RwI (M 2) (M 3) (M 57) (M 58) ∧ TxI (M 5) (M 6) (M 59) (M 60) ∧ GrI (M 9) (M 10) (M 11 0) (M 12) (M 13) (M 53 1) (M 55) (M 56) ∧ DI (M 11 0) (M 12) (M 13) (M 14) (M 15) (M 16) (M 17) (M 18) (M 54) 0 ∧
  (KpI (M 11 0) (M 12) (M 13) (M 35) (M 20) (M 21) (M 22) (M 23) (M 24) (M 54) 0 121 ∧ KpI (M 11 0) (M 12) (M 13) (M 35) (M 25) (M 26) (M 27) (M 28) (M 29) (M 54) 1 242 ∧ KpI (M 11 0) (M 12) (M 13) (M 35) (M 30) (M 31) (M 32) (M 33) (M 34) (M 54) 2 363) ∧ TlI (M 0) (M 52) (M 53) (M 61)
noncomputable def Step (X Y : am_M → am_Rs) (M : am_M) : Prop := ∃ v w M1 M2, X M = some (v, M1) ∧ Y M1 = some (w, M2) ∧ wI v = wI w ∧ Inv M2
noncomputable def StepL (X Y : am_M → am_Rs) (M : am_M) : Prop := ∃ v w M1 M2, X M = some (v, M1) ∧ Y M1 = some (w, M2) ∧ wL v = wL w ∧ Inv M2
theorem Inv.sh1 {M : am_M} (I : Inv M) : Sh1 M := ⟨I.1.1, I.1.2.1, I.1.2.2.1, I.2.1.2.1⟩
theorem Inv.sh4 {M : am_M} (I : Inv M) : Sh4 M := ⟨I.1.2.2.2.1, I.1.2.2.2.2.1, I.1.2.2.2.2.2, I.2.2.1.2.1⟩
theorem Inv.g11 {M : am_M} (I : Inv M) : Gd11 M := ⟨by have := I.2.2.2.1.2.1; omega, I.2.2.2.1.2.2.1, I.2.2.2.1.2.2.2.1, I.2.2.2.1.2.2.2.2.1⟩
theorem Inv.gM {M : am_M} (I : Inv M) : GdM M := ⟨by have := I.2.2.2.1.1; have := I.2.2.2.1.2.1; omega, by have := I.2.2.2.1.1; have := I.2.2.2.1.2.2.1; omega, I.2.2.2.1.2.2.2.2.2.1, I.2.2.2.1.2.2.2.2.2.2.1⟩
theorem inv_find {M : am_M} (I : Inv M) (f : Nat) : Inv (mF f (cF f M)) := by
  obtain ⟨h1, h2, h3, h4, h5, h6, t1, t2, t3, t4, t5⟩ := I
  refine ⟨h1, h2, h3, h4, h5, h6, rfl, t2, t3, t4, ?_⟩
  show (mF f (cF f M)) 61 = (mF f (cF f M)) 52
  funext j
  show (if j = f then M 61 f + 1 else M 61 j) = (if j = f then M 52 f + 1 else M 52 j)
  rw [t5]
theorem inv_tell {M : am_M} (I : Inv M) (v : Int) : Inv (mT v (cT v M)) := by
  obtain ⟨h1, h2, h3, h4, h5, h6, t1, t2, t3, t4, t5⟩ := I
  exact ⟨h1, h2, h3, h4, h5, h6, t1, rfl, t3, t4, t5⟩
theorem st_same {X Y : am_M → am_Rs} {M : am_M} (I : Inv M) {v w : Int} (h1 : X M = some (v, M)) (h2 : Y M = some (w, M)) (h : wI v = wI w) : Step X Y M := ⟨v, w, M, M, h1, h2, h, I⟩
theorem st_find {X Y : am_M → am_Rs} {M : am_M} (I : Inv M) {f : Nat} (h1 : X M = some (-3, cF f M)) (h2 : Y (cF f M) = some (-3, mF f (cF f M))) : Step X Y M := ⟨_, _, _, _, h1, h2, rfl, inv_find I f⟩
theorem st_tell {X Y : am_M → am_Rs} {M : am_M} (I : Inv M) {v w : Int} (h : v = w) (h1 : X M = some (1, cT v M)) (h2 : Y (cT v M) = some (1, mT w (cT v M))) : Step X Y M := by subst h; exact ⟨_, _, _, _, h1, h2, rfl, inv_tell I v⟩
theorem w1 : wI 1 = 1 := rfl
theorem wm1 : wI (-1) = -1 := rfl
theorem n10 : ((1 : Int) = 0) = False := by simp
theorem eq_asked {M : am_M} (I : Inv M) : Step X_X8_asked_0 X_X9_asked_53 M := st_same I (v := M 0 13) (w := M 53 8) rfl rfl (by rw [I.2.2.2.2.2.2.2.1])
theorem eq_finding {M : am_M} (I : Inv M) : Step X_X8_finding_0 X_X9_finding_53 M := st_same I (v := M 0 12) (w := M 53 11) rfl rfl (by rw [I.2.2.2.2.2.2.1])
theorem eq_upper {M : am_M} (I : Inv M) : StepL X_X8_upper_0 X_X9_upper_53 M := ⟨M 0 14, M 53 9, M, M, rfl, rfl, by rw [I.2.2.2.2.2.2.2.2.1], I⟩
theorem eq_lower {M : am_M} (I : Inv M) : StepL X_X8_lower_0 X_X9_lower_53 M := ⟨M 0 15, M 53 10, M, M, rfl, rfl, by rw [I.2.2.2.2.2.2.2.2.2.1], I⟩
theorem eq_findings {M : am_M} (I : Inv M) {f : Int} (hf : iR f) : Step (X_X8_findings_0 f) (X_X9_findings_53 f) M := by
  have t5 := I.2.2.2.2.2.2.2.2.2.2
  by_cases c : 1 ≤ f ∧ f ≤ 5
  · refine st_same I (v := M 52 f.toNat) (w := M 61 f.toNat) ?_ ?_ (by rw [t5])
    · simp (disch := omega) only [X_X8_findings_0, wI_R hf, if_pos, if_neg]
    · simp (disch := omega) only [X_X9_findings_53, wI_R hf, sp_in M hf (by unfold iR; omega : iR 1) (by unfold iR; omega : iR 5), b2_t c, ob, w1, n10, if_false, if_pos]
  · refine st_same I (v := -1) (w := -1) ?_ ?_ rfl
    · by_cases c2 : f < 1
      · simp (disch := omega) only [X_X8_findings_0, wI_R hf, if_pos]
      · simp (disch := omega) only [X_X8_findings_0, wI_R hf, if_pos, if_neg]
    · simp (disch := omega) only [X_X9_findings_53, wI_R hf, sp_in M hf (by unfold iR; omega : iR 1) (by unfold iR; omega : iR 5), b2_f c, ob, wI_0, if_true]
