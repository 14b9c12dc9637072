/-! A day on both sides. -/
noncomputable def dayG (kd du o : Nat → Int) (bb : Int) (j : Nat) : Int := if j % 2 = 0 then due kd du 0 ((j / 2 % 12 : Nat) : Int) bb (o 2) else due kd du 1 ((j / 2 % 12 : Nat) : Int) bb (o 3)
noncomputable def dayB (x y : Int) (C : am_M) : Int := aft (C 11 0) (C 12) (C 14 1) (C 14 0) x y
/-- the class's memory behind a day -/
noncomputable def dayC (x y : Int) (C : am_M) : am_M := fun c j =>
  if c = 14 then (if j = 0 then C 14 0 + 1 else if j = 1 then dayB x y C else C 14 j)
  else if c = 15 then (if j = (C 14 0).toNat then x else C 15 j)
  else if c = 16 then (if j = (C 14 0).toNat then y else C 16 j)
  else if c = 17 then (if j = (C 14 0).toNat + 1 then dayB x y C else C 17 j)
  else if c = 18 then (if (C 14 0).toNat % 10 = 9 ∧ (C 14 0).toNat / 10 * 24 ≤ j ∧ (j : Int) < (((C 14 0).toNat / 10 * 24 : Nat) : Int) + C 11 0 * 2 then dayG (C 12) (C 13) (C 14) (dayB x y C) j else C 18 j)
  else C c j
theorem dayC_a {x y : Int} {C : am_M} {c : Nat} (h : c < 14 ∨ 18 < c) : dayC x y C c = C c := by
  funext j
  unfold dayC
  rw [if_neg (by omega), if_neg (by omega), if_neg (by omega), if_neg (by omega), if_neg (by omega)]
/-- what a day needs of the class -/
noncomputable def CB (C : am_M) : Prop := Gd11 C ∧ 0 ≤ C 14 0 ∧ (0 ≤ C 14 1 ∧ C 14 1 ≤ C 11 0) ∧ (0 ≤ C 14 2 ∧ C 14 2 ≤ 9) ∧ 0 ≤ C 14 3 ∧ C 14 3 ≤ 9
theorem CB.day {C : am_M} (h : CB C) (x y : Int) : CB (dayC x y C) := by
  obtain ⟨h1, h2, h3, h4, h5⟩ := h
  unfold CB Gd11
  rw [dayC_a (c := 11) (by decide), dayC_a (c := 12) (by decide), dayC_a (c := 13) (by decide)]
  refine ⟨h1, ?_, ?_, h4, h5⟩
  · show 0 ≤ C 14 0 + 1
    omega
  · exact aft_r h3
theorem dayG0 {kd du o : Nat → Int} {bb : Int} {t q : Nat} (h : q < 12) : dayG kd du o bb ((t * 12 + q) * 2) = due kd du 0 q bb (o 2) := by
  unfold dayG
  rw [if_pos (by omega), show (t * 12 + q) * 2 / 2 % 12 = q by omega]
theorem dayG1 {kd du o : Nat → Int} {bb : Int} {t q : Nat} (h : q < 12) : dayG kd du o bb ((t * 12 + q) * 2 + 1) = due kd du 1 q bb (o 3) := by
  unfold dayG
  rw [if_neg (by omega), show ((t * 12 + q) * 2 + 1) / 2 % 12 = q by omega]
theorem sp_day {C : am_M} (h : CB C) (hd : C 14 0 < 40) {x y : Int} (hx : 0 ≤ x ∧ x ≤ 3) (hy : 0 ≤ y ∧ y ≤ 3) : X_X1_pass_14_11 x y C = some (0, dayC x y C) := by
  obtain ⟨h1, h2, h3, h4, h5⟩ := h
  have hs := h1.2.1
  obtain ⟨d, hd0⟩ := Int.eq_ofNat_of_zero_le h2
  obtain ⟨M', e, q0, q14, q15, q16, q17, q18⟩ := sp_pass h1 hd0 (by omega) h3 h4 h5 hx hy (b' := dayB x y C) (by unfold dayB; rw [hd0]) (dayG (C 12) (C 13) (C 14) (dayB x y C)) (fun q hq => dayG0 (by omega)) (fun q hq => dayG1 (by omega))
  rw [e]
  congr 2
  funext c
  by_cases c0 : c < 14 ∨ 18 < c
  · rw [q0 c c0, dayC_a c0]
  · funext j
    unfold dayC
    rw [hd0, Int.toNat_natCast]
    rcases (show c = 14 ∨ c = 15 ∨ c = 16 ∨ c = 17 ∨ c = 18 by omega) with rfl | rfl | rfl | rfl | rfl
    · rw [q14 j, if_pos rfl]
    · rw [q15 j]; rfl
    · rw [q16 j]; rfl
    · rw [q17 j]; rfl
    · rw [q18 j]; rfl
/-- what the reference has noted of the strips behind d days -/
noncomputable def TT (s : Int) (kd du h R : Nat → Int) (d : Nat) (L : Nat → Int) (z : Nat) : Prop := ∀ i : Nat, (i : Int) < s → L (z + 4 + 3 * i) = tot kd du h R 0 i (d / 10) ∧ L (z + 4 + 3 * i + 1) = tot kd du h R 1 i (d / 10) ∧ L (z + 4 + 3 * i + 2) = chg h i d
theorem TT_c {s : Int} {kd du h h' R R' L : Nat → Int} {d z : Nat} (T : TT s kd du h R d L z) (hh : ∀ j, j ≤ d → h' j = h j) (hR : ∀ j, j < d → R' j = R j) : TT s kd du h' R' d L z := fun i hi => by
  have := T i hi
  rw [tot_c (d / 10) (fun j hj => hh j (by omega)) (fun j hj => hR j (by omega)), tot_c (d / 10) (fun j hj => hh j (by omega)) (fun j hj => hR j (by omega)), chg_c d (fun j hj => hh j hj)]
  exact this
theorem TT_s {s : Int} {kd du h R L L' : Nat → Int} {d z : Nat} (T : TT s kd du h R d L z) {r0 r1 : Int} (h0 : 0 ≤ r0 ∧ r0 ≤ 9) (h1 : 0 ≤ r1 ∧ r1 ≤ 9) (hR : R d = 10 * r0 + r1)
    (lq : ∀ q : Nat, (q : Int) < s → L' (z + 4 + 3 * q) = L (z + 4 + 3 * q) + (if d % 10 = 9 then due kd du 0 q (h (d + 1)) r0 else 0) ∧ L' (z + 4 + 3 * q + 1) = L (z + 4 + 3 * q + 1) + (if d % 10 = 9 then due kd du 1 q (h (d + 1)) r1 else 0) ∧ L' (z + 4 + 3 * q + 2) = L (z + 4 + 3 * q + 2) + (if crw q (h d) = crw q (h (d + 1)) then 0 else 1)) : TT s kd du h R (d + 1) L' z := fun i hi => by
  obtain ⟨a1, a2, a3⟩ := T i hi
  obtain ⟨b1, b2, b3⟩ := lq i hi
  rw [a1] at b1; rw [a2] at b2; rw [a3] at b3
  have e0 : (10 * r0 + r1) / 10 = r0 := by omega
  have e1 : (10 * r0 + r1) % 10 = r1 := by omega
  refine ⟨?_, ?_, b3⟩
  · rw [b1]
    by_cases c : d % 10 = 9
    · rw [if_pos c, show (d + 1) / 10 = d / 10 + 1 by omega]
      simp only [tot]
      rw [show 10 * (d / 10) + 10 = d + 1 by omega, show 10 * (d / 10) + 9 = d by omega, hR, e0]; rfl
    · rw [if_neg c, show (d + 1) / 10 = d / 10 by omega, Int.add_zero]
  · rw [b2]
    by_cases c : d % 10 = 9
    · rw [if_pos c, show (d + 1) / 10 = d / 10 + 1 by omega]
      simp only [tot]
      rw [show 10 * (d / 10) + 10 = d + 1 by omega, show 10 * (d / 10) + 9 = d by omega, hR, e1]; rfl
    · rw [if_neg c, show (d + 1) / 10 = d / 10 by omega, Int.add_zero]
theorem DI_TT {s : Int} {kd du h L : Nat → Int} {d : Nat} {z : Nat} : DyT s kd du (d : Int) h L z ↔ TT s kd du h (fun j => L (z + 80 + j)) d L z := by
  unfold DyT TT
  rw [show ((d : Int) / 10).toNat = d / 10 by omega, Int.toNat_natCast]
theorem aft_mv (s : Int) (kd : Nat → Int) (b d x y : Int) : aft s kd b d x y = b ∨ aft s kd b d x y = b - 1 ∨ aft s kd b d x y = b + 1 := by
  unfold aft
  split
  · exact Or.inl rfl
  · unfold cmp_
    split
    · exact Or.inr (Or.inl rfl)
    · split
      · exact Or.inl (Int.add_zero b)
      · exact Or.inr (Or.inr rfl)
/-- a day of the reference on the land that begins at z, told by what lies behind it -/
theorem sp_goOn (z : Nat) (hz : z = 0 ∨ z = 484) {N : am_M} (hG : GdM N) (hs : 0 < N 53 1) {x y : Int} (hx : 0 ≤ x ∧ x ≤ 3) (hy : 0 ≤ y ∧ y ≤ 3) {d : Nat} (hd : N 54 z = d) (hd4 : d < 40) (hb : 0 ≤ N 54 (z + 1) ∧ N 54 (z + 1) ≤ N 53 1) (h2 : 0 ≤ N 54 (z + 2) ∧ N 54 (z + 2) ≤ 9) (h3 : 0 ≤ N 54 (z + 3) ∧ N 54 (z + 3) ≤ 9) {bb : Int} (hbb : aft (N 53 1) (N 55) (N 54 (z + 1)) d x y = bb) :
    ∃ L', X_X9_goOn_53 z x y N = some (0, am_row N 54 L') ∧ L' z = d + 1 ∧ L' (z + 1) = bb ∧ L' (z + 2) = N 54 (z + 2) ∧ L' (z + 3) = N 54 (z + 3) ∧ L' (z + 40 + d) = 4 * x + y ∧ L' (z + 80 + d) = 10 * N 54 (z + 2) + N 54 (z + 3) ∧
      (∀ q : Nat, (q : Int) < N 53 1 → L' (z + 4 + 3 * q) = N 54 (z + 4 + 3 * q) + (if d % 10 = 9 then due (N 55) (N 56) 0 q bb (N 54 (z + 2)) else 0) ∧ L' (z + 4 + 3 * q + 1) = N 54 (z + 4 + 3 * q + 1) + (if d % 10 = 9 then due (N 55) (N 56) 1 q bb (N 54 (z + 3)) else 0) ∧ L' (z + 4 + 3 * q + 2) = N 54 (z + 4 + 3 * q + 2) + (if crw q (N 54 (z + 1)) = crw q bb then 0 else 1)) ∧
      ∀ j, (j < z ∨ z + 40 ≤ j) → j ≠ z + 40 + d → j ≠ z + 80 + d → L' j = N 54 j := by
  have hr : 0 ≤ bb ∧ bb ≤ N 53 1 := by rw [← hbb]; exact aft_r hb
  have hm := aft_mv (N 53 1) (N 55) (N 54 (z + 1)) d x y
  rw [hbb] at hm
  have g2 := hG.2.1
  refine lp_goOn z hz ⟨hG.1, hG.2.1⟩ hx hy hd hd4 hb h2 h3 hs ?_ hr hm (fun q => due (N 55) (N 56) 0 q bb (N 54 (z + 2))) (fun q => due (N 55) (N 56) 1 q bb (N 54 (z + 3))) ?_ ?_
  · rw [sp_behind hG hb (by omega) hx hy, hbb]
  · intro M' i n1 n2 n3 hi
    have gN : GdM M' := by unfold GdM; rw [n1, n2, n3]; exact hG
    rw [sp_paysTo gN (by decide) (by omega) (by omega) h2, n2, n3]
  · intro M' i n1 n2 n3 hi
    have gN : GdM M' := by unfold GdM; rw [n1, n2, n3]; exact hG
    rw [sp_paysTo gN (by decide) (by omega) (by omega) h3, n2, n3]
/-- the reference's day keeps step with the class's -/
theorem m_day {C N : am_M} (hC : CB C) (hG : GdM N) (es : N 53 1 = C 11 0) (hk : ∀ i : Nat, (i : Int) < C 11 0 → N 55 i = C 12 i ∧ N 56 i = C 13 i) (hs : C 11 0 ≠ 0) (D : DI (C 11 0) (C 12) (C 13) (C 14) (C 15) (C 16) (C 17) (C 18) (N 54) 0) (hd : C 14 0 < 40) {x y : Int} (hx : 0 ≤ x ∧ x ≤ 3) (hy : 0 ≤ y ∧ y ≤ 3) :
    ∃ L', X_X9_goOn_53 0 x y N = some (0, am_row N 54 L') ∧ DI (C 11 0) (C 12) (C 13) (dayC x y C 14) (dayC x y C 15) (dayC x y C 16) (dayC x y C 17) (dayC x y C 18) L' 0 ∧ ∀ j, 121 ≤ j → L' j = N 54 j := by
  obtain ⟨c1, c2, c3, c4, c5⟩ := hC
  have hs0 : 0 ≤ C 11 0 ∧ C 11 0 ≤ 12 := ⟨c1.1, c1.2.1⟩
  obtain ⟨d, hd0⟩ := Int.eq_ofNat_of_zero_le c2
  obtain ⟨⟨o1, o2, o3, o4, o5, o6, o7, o8, o9⟩, ⟨s1, s2⟩, ⟨y1, y2, y3, y4, y5⟩, ⟨p1, p2⟩, hT⟩ := D
  have hbb : aft (N 53 1) (N 55) (N 54 (0 + 1)) d x y = dayB x y C := by
    rw [es, aft_c (fun i h => (hk i h).1), o3]; unfold dayB; rw [hd0]
  obtain ⟨L', e, l0, l1, l2, l3, l4, l5, lq, lj⟩ := sp_goOn 0 (Or.inl rfl) hG (by rw [es]; omega) hx hy (d := d) (by rw [o1, hd0]) (by omega) (by rw [o3, es]; exact c3) (by rw [o5]; exact c4) (by rw [o6]; exact c5) hbb
  refine ⟨L', e, ?_, fun j hj => lj j (by omega) (by omega) (by omega)⟩
  have hbr : 0 ≤ dayB x y C ∧ dayB x y C ≤ C 11 0 := aft_r c3
  have k14 : ∀ j, dayC x y C 14 j = if j = 0 then C 14 0 + 1 else if j = 1 then dayB x y C else C 14 j := fun j => rfl
  have k15 : ∀ j, dayC x y C 15 j = if j = d then x else C 15 j := fun j => by unfold dayC; rw [hd0]; rfl
  have k16 : ∀ j, dayC x y C 16 j = if j = d then y else C 16 j := fun j => by unfold dayC; rw [hd0]; rfl
  have k17 : ∀ j, dayC x y C 17 j = if j = d + 1 then dayB x y C else C 17 j := fun j => by unfold dayC; rw [hd0]; rfl
  have k18 : ∀ j, dayC x y C 18 j = if d % 10 = 9 ∧ d / 10 * 24 ≤ j ∧ (j : Int) < ((d / 10 * 24 : Nat) : Int) + C 11 0 * 2 then dayG (C 12) (C 13) (C 14) (dayB x y C) j else C 18 j := fun j => by unfold dayC; rw [hd0]; rfl
  have z14 : dayC x y C 14 0 = ((d + 1 : Nat) : Int) := by rw [k14, if_pos rfl, hd0]; rfl
  have z14b : dayC x y C 14 1 = dayB x y C := rfl
  have hy2 : C 17 d = C 14 1 := by rw [← y2, hd0, Int.toNat_natCast]
  have hR : ∀ j, j < d → L' (0 + 80 + j) = N 54 (0 + 80 + j) := fun j hj => lj _ (by omega) (by omega) (by omega)
  refine ⟨⟨?_, ?_, ?_, ?_, ?_, ?_, ?_, ?_, ?_⟩, ⟨?_, ?_⟩, ⟨?_, ?_, ?_, ?_, ?_⟩, ⟨?_, ?_⟩, ?_⟩
  · rw [z14, l0]; rfl
  · rw [z14]; omega
  · rw [z14b]; exact l1
  · rw [z14b]; exact hbr
  · exact l2.trans o5
  · exact l3.trans o6
  · exact o7
  · exact o8
  · exact fun q => absurd q hs
  · intro j
    rw [k15, k16]
    have := s1 j
    constructor
    · split
      · exact hx
      · exact this.1
    · split
      · exact hy
      · exact this.2
  · intro j hj
    rw [z14] at hj
    rw [k15, k16]
    by_cases c : j = d
    · subst c
      rw [if_pos rfl, if_pos rfl]
      refine ⟨l4, ?_⟩
      rw [l5, o5, o6]; omega
    · rw [if_neg c, if_neg c, lj (0 + 40 + j) (by omega) (by omega) (by omega), lj (0 + 80 + j) (by omega) (by omega) (by omega)]
      exact s2 j (by omega)
  · rw [k17, if_neg (by omega), lj (0 + 120) (by omega) (by omega) (by omega)]; exact y1
  · rw [z14, Int.toNat_natCast, k17, if_pos rfl, z14b]
  · intro j
    rw [k17]
    split
    · omega
    · exact y3 j
  · intro j hj
    rw [z14] at hj
    rw [k17]
    split
    · exact hbr.2
    · exact y4 j (by omega)
  · intro j hj
    rw [z14] at hj
    rw [k17, k17, k15, k16, if_neg (show ¬ j = d + 1 by omega)]
    by_cases c : j = d
    · subst c
      rw [if_pos rfl, if_pos rfl, if_pos rfl, hy2]; unfold dayB; rw [hd0]
    · rw [if_neg (by omega), if_neg c, if_neg c]
      exact y5 j (by omega)
  · intro j
    rw [k18]
    split
    · unfold dayG
      split
      · exact due_r c1.2.2.2 c4
      · exact due_r c1.2.2.2 c5
    · exact p1 j
  · intro t i ht hi
    rw [z14] at ht
    dsimp only
    rw [k17, k18, k18]
    by_cases c : 10 * t + 9 = d
    · have e1 : d % 10 = 9 := by omega
      have e2 : d / 10 = t := by omega
      rw [if_pos (show 10 * t + 10 = d + 1 by omega), c, l5, o5, o6, e2, if_pos (by refine ⟨e1, ?_, ?_⟩ <;> omega), if_pos (by refine ⟨e1, ?_, ?_⟩ <;> omega), dayG0 (by omega), dayG1 (by omega), show (10 * C 14 2 + C 14 3) / 10 = C 14 2 by omega, show (10 * C 14 2 + C 14 3) % 10 = C 14 3 by omega]
      exact ⟨rfl, rfl⟩
    · rw [if_neg (show ¬ 10 * t + 10 = d + 1 by omega), hR (10 * t + 9) (by omega), if_neg (by omega), if_neg (by omega)]
      exact p2 t i (by omega) hi
  · rw [z14, DI_TT]
    rw [hd0, DI_TT] at hT
    have hT2 := TT_c (h' := dayC x y C 17) (R' := fun j => L' (0 + 80 + j)) hT (fun j hj => by rw [k17, if_neg (by omega)]) (fun j hj => hR j hj)
    refine TT_s hT2 c4 c5 ?_ (fun q hq => ?_)
    · show L' (0 + 80 + d) = _
      rw [l5, o5, o6]
    · have := lq q (by rw [es]; exact hq)
      rw [o5, o6, o3, due_c (i := (q : Int)) (hk q hq).1 (hk q hq).2, due_c (i := (q : Int)) (hk q hq).1 (hk q hq).2] at this
      rw [k17, if_pos rfl, k17, if_neg (show ¬ d = d + 1 by omega), hy2]
      exact this
theorem Inv.cb {M : am_M} (I : Inv M) : CB M := ⟨I.g11, I.r0.1, I.r1, I.r2, I.r3⟩
theorem Inv.kk {M : am_M} (I : Inv M) : ∀ i : Nat, (i : Int) < M 11 0 → M 55 i = M 12 i ∧ M 56 i = M 13 i := I.2.2.2.1.2.2.2.2.2.2.2.1
theorem eq_day {M : am_M} (I : Inv M) {x y : Int} (hx : iR x) (hy : iR y) : Step (X_X8_day_0 x y) (X_X9_day_53 x y) M := gd_day I hx hy fun h1 h2 h3 => by
  have hG := I.g11
  have es := I.es
  have r0 := I.r0
  have hs := I.rs
  by_cases c : M 14 0 < 40
  · have hc : X_X8_day_0 x y M = some (dayC x y M 14 1, dayC x y M) := by
      simp (disch := omega) only [X_X8_day_0, wI_R hx, wI_R hy, sp_hasNoLand hG, b2_f h3, ob, wI_0, if_true, wI_of (x := M 14 0), if_neg, if_pos, sp_day I.cb c h1 h2]
    have hG' : GdM (dayC x y M) := by unfold GdM; rw [dayC_a (c := 53) (by decide), dayC_a (c := 55) (by decide), dayC_a (c := 56) (by decide)]; exact I.gM
    obtain ⟨L', e1, e2, e3⟩ := m_day (N := dayC x y M) I.cb hG' (by rw [dayC_a (c := 53) (by decide)]; exact es) (fun i hi => by rw [dayC_a (c := 55) (by decide), dayC_a (c := 56) (by decide)]; exact I.kk i hi) h3 (by rw [dayC_a (c := 54) (by decide)]; exact I.2.2.2.2.1) c h1 h2
    have hm : X_X9_day_53 x y (dayC x y M) = some (L' 1, am_row (dayC x y M) 54 L') := by
      have u1 : dayC x y M 53 1 = M 11 0 := by rw [dayC_a (c := 53) (by decide)]; exact es
      have u2 : dayC x y M 54 0 = M 14 0 := by rw [dayC_a (c := 54) (by decide)]; exact I.d0
      simp (disch := omega) only [X_X9_day_53, sp_isSaid _ hx, b2_t h1, sp_isSaid _ hy, b2_t h2, ob, w1, n10, if_false, u1, u2, wI_of (x := M 11 0), wI_of (x := M 14 0), if_neg, e1, row_s]
    refine ⟨_, _, _, _, hc, hm, ?_, ?_⟩
    · rw [show dayC x y M 14 1 = L' 1 from e2.1.2.2.1.symm]
    · refine inv_days I (fun a q1 q2 q3 q4 q5 q6 => by rw [row_a q6, dayC_a (by omega)]) (fun j q1 q2 => by rw [row_s, e3 j q1, dayC_a (c := 54) (by decide)]) ?_
      rw [row_a (by decide), row_a (by decide), row_a (by decide), row_a (by decide), row_a (by decide), row_s]
      exact e2
  · refine st_same I (v := -2) (w := -2) ?_ ?_ rfl
    · simp (disch := omega) only [X_X8_day_0, wI_R hx, wI_R hy, sp_hasNoLand hG, b2_f h3, ob, wI_0, if_true, wI_of (x := M 14 0), if_neg]
    · simp (disch := omega) only [X_X9_day_53, sp_isSaid _ hx, b2_t h1, sp_isSaid _ hy, b2_t h2, ob, w1, n10, if_false, es, I.d0, wI_of (x := M 11 0), wI_of (x := M 14 0), if_neg, if_pos]
