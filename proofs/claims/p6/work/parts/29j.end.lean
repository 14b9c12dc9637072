/-! the end of a land -/
noncomputable def FC (C C' : am_M) : Prop := ∀ a, a ≠ 7 → a ≠ 8 → a ≠ 9 → a ≠ 10 → C' a = C a
noncomputable def FD (D D' : am_M) : Prop := (∀ a, a ≠ 53 → a ≠ 62 → a ≠ 63 → D' a = D a) ∧ ∀ j, (j = 1 ∨ (8 ≤ j ∧ j ≤ 11)) → D' 53 j = D 53 j
theorem FC.rf (C : am_M) : FC C C := fun _ _ _ _ _ => rfl
theorem FC.tr {A B C : am_M} (h : FC A B) (g : FC B C) : FC A C := fun a h1 h2 h3 h4 => (g a h1 h2 h3 h4).trans (h a h1 h2 h3 h4)
theorem FC.up {C : am_M} {a j : Nat} {x : Int} (h : a = 7 ∨ a = 8 ∨ a = 9 ∨ a = 10) : FC C (am_up C a j x) := fun b h1 h2 h3 h4 => up_a (by omega)
theorem FD.rf (D : am_M) : FD D D := ⟨fun _ _ _ _ => rfl, fun _ _ => rfl⟩
theorem FD.tr {A B C : am_M} (h : FD A B) (g : FD B C) : FD A C := ⟨fun a h1 h2 h3 => (g.1 a h1 h2 h3).trans (h.1 a h1 h2 h3), fun j hj => (g.2 j hj).trans (h.2 j hj)⟩
theorem FD.u53 {D : am_M} {j : Nat} {x : Int} (h : 13 ≤ j) : FD D (am_up D 53 j x) := ⟨fun a h1 _ _ => up_a h1, fun i hi => up_j (by omega)⟩
theorem FD.u {D : am_M} {a j : Nat} {x : Int} (h : a = 62 ∨ a = 63) : FD D (am_up D a j x) := ⟨fun b h1 h2 h3 => up_a (by omega), fun i hi => by rw [up_a (by omega)]⟩
/-- a land that was read whole, on both sides -/
noncomputable def LD (C D : am_M) (m : Nat) : Prop := (2 ≤ m ∧ m ≤ 12) ∧ C 8 0 = m ∧ D 53 17 = m ∧ (∀ j, j < m → D 62 (2 * j) = C 9 j ∧ D 62 (2 * j + 1) = C 10 j) ∧ (D 63 0 = C 7 1 ∧ D 63 1 = C 7 2 ∧ D 63 2 = C 7 3) ∧ (0 ≤ C 7 1 ∧ C 7 1 ≤ m) ∧ (0 ≤ C 7 2 ∧ C 7 2 ≤ 9) ∧ (0 ≤ C 7 3 ∧ C 7 3 ≤ 9)
noncomputable def OUT (C D : am_M) (v : Int) (C' D' : am_M) : Prop := FC C C' ∧ FD D D' ∧ ((∀ i, 0 ≤ C' 9 i ∧ C' 9 i ≤ 5) ∧ ∀ i, 0 ≤ C' 10 i ∧ C' 10 i ≤ 9) ∧ (-9 ≤ v ∧ v ≤ 60) ∧ (v = -9 → ∃ m, LD C' D' m)
theorem m_e0 (k : am_M → am_Rs) {t z : Nat} {s : Nat → Int} {q n : Nat} {D : am_M} (T : TX t z s) (h : MR t z s q n D) (hq : q ≤ z) (hn : n ≤ 12) (n1 : Nat) {hh : Int} (e : hh = if (n : Int) < 9 then (n : Int) else 9) : (FG s z q 0 hh → XL_X9_readsEnd_53_3 k (n1 + 1) 0 D = XL_X9_readsEnd_53_3 k n1 1 (am_up (am_up D 53 14 ((q + 1 : Nat) : Int)) 63 0 (sg s z q - 48))) ∧ (¬ FG s z q 0 hh → XL_X9_readsEnd_53_3 k (n1 + 1) 0 D = some (0, am_up D 63 0 (-9))) := by
  have sr := sg_r T q
  rw [XL_X9_readsEnd_53_3, XB_X9_readsEnd_53_3, wI_0, if_pos (by decide), if_pos rfl, h.2.2.2.2, wI_of (x := (n : Int)) (by omega) (by omega), show (0 : Int).toNat = 0 from rfl]
  by_cases c : (n : Int) < 9
  · rw [if_pos c] at e
    have f := m_fig T h hq (lo := 0) (hi := hh) (by decide) (by omega)
    rw [if_pos c, ← e]
    refine ⟨fun g => ?_, fun g => ?_⟩
    · have g2 := g
      unfold FG at g2
      rw [f.1 g, ob]
      dsimp +instances only
      rw [if_pos (by decide), if_pos (by decide), up_s, wI_of (x := sg s z q - 48) (by omega) (by omega), if_neg (by omega)]
      rfl
    · rw [f.2 g, ob]
      dsimp +instances only
      rw [if_pos (by decide), if_pos (by decide), up_s, if_pos (by decide)]
  · rw [if_neg c] at e
    have f := m_fig T h hq (lo := 0) (hi := 9) (by decide) (by decide)
    rw [if_neg c]
    rw [e]
    refine ⟨fun g => ?_, fun g => ?_⟩
    · have g2 := g
      unfold FG at g2
      rw [f.1 g, ob]
      dsimp +instances only
      rw [if_pos (by decide), if_pos (by decide), up_s, wI_of (x := sg s z q - 48) (by omega) (by omega), if_neg (by omega)]
      rfl
    · rw [f.2 g, ob]
      dsimp +instances only
      rw [if_pos (by decide), if_pos (by decide), up_s, if_pos (by decide)]
theorem m_e1 (k : am_M → am_Rs) {t z : Nat} {s : Nat → Int} {q n : Nat} {D : am_M} (T : TX t z s) (h : MR t z s q n D) (hq : q ≤ z) (n1 : Nat) {v : Nat} (hv : v = 1 ∨ v = 2) : (FG s z q 1 9 → XL_X9_readsEnd_53_3 k (n1 + 1) v D = XL_X9_readsEnd_53_3 k n1 ((v + 1 : Nat) : Int) (am_up (am_up D 53 14 ((q + 1 : Nat) : Int)) 63 v (sg s z q - 48))) ∧ (¬ FG s z q 1 9 → XL_X9_readsEnd_53_3 k (n1 + 1) v D = some (0, am_up D 63 v (-9))) := by
  have sr := sg_r T q
  have f := m_fig T h hq (lo := 1) (hi := 9) (by decide) (by decide)
  rw [XL_X9_readsEnd_53_3, XB_X9_readsEnd_53_3, wI_of (x := (v : Int)) (by omega) (by omega), if_pos (by omega), if_neg (by omega), Int.toNat_natCast]
  refine ⟨fun g => ?_, fun g => ?_⟩
  · have g2 := g
    unfold FG at g2
    rw [f.1 g, ob]
    dsimp +instances only
    rw [if_pos (by omega), if_pos (by omega), up_s, wI_of (x := sg s z q - 48) (by omega) (by omega), if_neg (by omega)]
    rfl
  · rw [f.2 g, ob]
    dsimp +instances only
    rw [if_pos (by omega), if_pos (by omega), up_s, if_pos (by decide)]
theorem OUT.f {C D C' D' : am_M} {q : Nat} (h1 : FC C C') (h2 : FD D D') (h3 : (∀ i, 0 ≤ C' 9 i ∧ C' 9 i ≤ 5) ∧ ∀ i, 0 ≤ C' 10 i ∧ C' 10 i ≤ 9) (hq : q ≤ 60) : OUT C D (q : Int) C' D' := ⟨h1, h2, h3, by omega, fun e => by omega⟩
theorem OUT.tr {C D C1 D1 C' D' : am_M} {v : Int} (h1 : FC C C1) (h2 : FD D D1) (h : OUT C1 D1 v C' D') : OUT C D v C' D' := ⟨h1.tr h.1, h2.tr h.2.1, h.2.2⟩
noncomputable def cK3 (X : am_M) : am_Rs := (X_X5_skipBlanks_7 X).bind fun z4 => (X_X6_sizeOf_4 (z4.2 7 5) z4.2).bind fun z5 => if wI (z4.2 7 6) < wI z5.1 then some (0, z5.2) else some (1, z5.2)
noncomputable def cK2 (X : am_M) : am_Rs := (X_X5_readFigure_7 1 9 X).bind fun z3 => if wI ((am_up z3.2 7 3 z3.1) 7 3) < 0 then some (0, (am_up z3.2 7 3 z3.1)) else cK3 (am_up z3.2 7 3 z3.1)
noncomputable def cK1 (X : am_M) : am_Rs := (X_X5_readFigure_7 1 9 X).bind fun z2 => if wI ((am_up z2.2 7 2 z2.1) 7 2) < 0 then some (0, (am_up z2.2 7 2 z2.1)) else cK2 (am_up z2.2 7 2 z2.1)
theorem c_end (C : am_M) : X_X5_readEnd_7 C = (X_X5_readFigure_7 0 ((am_up C 7 6 ((C 7 6) + 1)) 8 0) (am_up C 7 6 ((C 7 6) + 1))).bind fun z1 => if wI ((am_up z1.2 7 1 z1.1) 7 1) < 0 then some (0, (am_up z1.2 7 1 z1.1)) else cK1 (am_up z1.2 7 1 z1.1) := rfl
theorem c_k3 {t z : Nat} {s : Nat → Int} {p n : Nat} {C : am_M} (T : TX t z s) (h : CR t z s p n C) (hp : p ≤ z) : cK3 C = some (if sk s z p < z then 0 else 1, am_up C 7 6 (sk s z p : Nat)) := by
  have t1 := T.1
  have t2 := T.2.1
  have h1 := h.mv (sk s z p)
  have sr := sk_r (s := s) hp
  rw [cK3, c_skip T h hp, ob]
  dsimp +instances only
  rw [h1.2.2.2.1, sp_sizeOf_4 h1.1 (by unfold iR; omega), if_pos (by omega), ob, Int.toNat_natCast, h1.2.1]
  dsimp +instances only
  rw [h1.2.2.2.2.1, wI_of (x := ((sk s z p : Nat) : Int)) (by omega) (by omega), wI_of (x := (z : Int)) (by omega) (by omega)]
  by_cases c : sk s z p < z
  · rw [if_pos (by omega), if_pos c]
  · rw [if_neg (by omega), if_neg c]
theorem c_k2 {t z : Nat} {s : Nat → Int} {p n : Nat} {C : am_M} (T : TX t z s) (h : CR t z s p n C) (hp : p ≤ z) : (FG s z p 1 9 → cK2 C = cK3 (am_up (am_up C 7 6 ((p + 1 : Nat) : Int)) 7 3 (sg s z p - 48))) ∧ (¬ FG s z p 1 9 → cK2 C = some (0, am_up C 7 3 (-1))) := by
  have f := c_fig T h hp (lo := 1) (hi := 9) (hh := 9) (by decide) (by decide) (by decide)
  have sr := sg_r T p
  refine ⟨fun g => ?_, fun g => ?_⟩
  · have g2 := g
    unfold FG at g2
    rw [cK2, f.1 g, ob]
    dsimp +instances only
    rw [up_s, wI_of (x := sg s z p - 48) (by omega) (by omega), if_neg (by omega)]
  · rw [cK2, f.2 g, ob]
    dsimp +instances only
    rw [up_s, if_pos (by decide)]
theorem c_k1 {t z : Nat} {s : Nat → Int} {p n : Nat} {C : am_M} (T : TX t z s) (h : CR t z s p n C) (hp : p ≤ z) : (FG s z p 1 9 → cK1 C = cK2 (am_up (am_up C 7 6 ((p + 1 : Nat) : Int)) 7 2 (sg s z p - 48))) ∧ (¬ FG s z p 1 9 → cK1 C = some (0, am_up C 7 2 (-1))) := by
  have f := c_fig T h hp (lo := 1) (hi := 9) (hh := 9) (by decide) (by decide) (by decide)
  have sr := sg_r T p
  refine ⟨fun g => ?_, fun g => ?_⟩
  · have g2 := g
    unfold FG at g2
    rw [cK1, f.1 g, ob]
    dsimp +instances only
    rw [up_s, wI_of (x := sg s z p - 48) (by omega) (by omega), if_neg (by omega)]
  · rw [cK1, f.2 g, ob]
    dsimp +instances only
    rw [up_s, if_pos (by decide)]
theorem c_k0 {t z : Nat} {s : Nat → Int} {p n : Nat} {C : am_M} (T : TX t z s) (h : CR t z s p n C) (hp : p < z) (hn : n ≤ 12) {hh : Int} (e : hh = if (n : Int) < 9 then (n : Int) else 9) : (FG s z (p + 1) 0 hh → X_X5_readEnd_7 C = cK1 (am_up (am_up (am_up C 7 6 ((p + 1 : Nat) : Int)) 7 6 ((p + 1 + 1 : Nat) : Int)) 7 1 (sg s z (p + 1) - 48))) ∧ (¬ FG s z (p + 1) 0 hh → X_X5_readEnd_7 C = some (0, am_up (am_up C 7 6 ((p + 1 : Nat) : Int)) 7 1 (-1))) := by
  have h1 := h.mv (p + 1)
  have f := c_fig T h1 (by omega) (lo := 0) (hi := (n : Int)) (hh := hh) (by decide) (by omega) e
  have sr := sg_r T (p + 1)
  rw [c_end, h.2.2.2.2.1, show (p : Int) + 1 = ((p + 1 : Nat) : Int) by omega, h1.2.2.2.2.2.1]
  refine ⟨fun g => ?_, fun g => ?_⟩
  · have g2 := g
    unfold FG at g2
    rw [f.1 g, ob]
    dsimp +instances only
    rw [up_s, wI_of (x := sg s z (p + 1) - 48) (by omega) (by omega), if_neg (by omega)]
  · rw [f.2 g, ob]
    dsimp +instances only
    rw [up_s, if_pos (by decide)]
theorem c_out {t z : Nat} {s : Nat → Int} {p n : Nat} {C C' : am_M} (e : X_X5_readEnd_7 C = some (0, C')) (h : CR t z s p n C') : XB_X5_read_7_4 C = some ((p : Int), C') := by
  rw [XB_X5_read_7_4, e, ob]
  dsimp +instances only
  rw [if_pos wI_0, h.2.2.2.2.1]
theorem m_out {t z : Nat} {s : Nat → Int} {p n q n2 : Nat} {D D' : am_M} (T : TX t z s) (h0 : MR t z s p n D) (hp : p < z) (e : X_X9_readsEnd_53 D = some (0, D')) (h : MR t z s q n2 D') : XB_X9_faultOf_53_6 1 D = some ((q : Int), D') := by
  have t2 := T.2.1
  rw [XB_X9_faultOf_53_6, if_neg (by decide), h0.2.2.1, h0.2.2.2.1, wI_of (x := (p : Int)) (by omega) (by omega), wI_of (x := (z : Int)) (by omega) (by omega), if_pos (by omega), e, ob]
  dsimp +instances only
  rw [if_pos wI_0, h.2.2.1]
theorem sim_end {t z : Nat} {s : Nat → Int} {q n : Nat} {C D : am_M} (T : TX t z s) (hC : CR t z s q n C) (hD : MR t z s q n D) (hq : q < z) (hn : 2 ≤ n ∧ n ≤ 12) (hE : ∀ j, j < n → D 62 (2 * j) = C 9 j ∧ D 62 (2 * j + 1) = C 10 j) : ∃ v C' D', XB_X5_read_7_4 C = some (v, C') ∧ XB_X9_faultOf_53_6 1 D = some (v, D') ∧ OUT C D v C' D' := by
  have t2 := T.2.1
  obtain ⟨hh, ehh⟩ : ∃ hh : Int, hh = if (n : Int) < 9 then (n : Int) else 9 := ⟨_, rfl⟩
  have ehn : hh ≤ n ∧ hh ≤ 9 := by
    by_cases c : (n : Int) < 9
    · rw [if_pos c] at ehh; omega
    · rw [if_neg c] at ehh; omega
  have m0 : X_X9_readsEnd_53 D = XL_X9_readsEnd_53_3 XB_X9_readsEnd_53_13 (999 + 1) 0 (am_up D 53 14 ((q + 1 : Nat) : Int)) := by
    rw [X_X9_readsEnd_53, XB_X9_readsEnd_53_e, hD.2.2.2.2, wI_of (x := (n : Int)) (by omega) (by omega), if_neg (by omega), hD.2.2.1, show (q : Int) + 1 = ((q + 1 : Nat) : Int) by omega]
  have hD1 := hD.mv (q + 1)
  have hC1 := hC.mv (q + 1)
  have k0 := c_k0 T hC hq hn.2 ehh
  have j0 := m_e0 XB_X9_readsEnd_53_13 T hD1 (by omega) hn.2 999 ehh
  by_cases g0 : FG s z (q + 1) 0 hh
  · have q1 : q + 1 < z := sg_lt (s := s) (by unfold FG at g0; omega)
    have hC2 := ((hC1.mv (q + 1 + 1)).u7 1 (sg s z (q + 1) - 48) (by decide) (by decide))
    have hD2 := (hD1.mv (q + 1 + 1)).u (a := 63) (j := 0) (x := sg s z (q + 1) - 48) (Or.inr rfl)
    have k1 := c_k1 T hC2 (by omega)
    have j1 := m_e1 XB_X9_readsEnd_53_13 T hD2 (by omega) 998 (v := 1) (Or.inl rfl)
    by_cases g1 : FG s z (q + 1 + 1) 1 9
    · have q2 : q + 1 + 1 < z := sg_lt (s := s) (by unfold FG at g1; omega)
      have hC3 := ((hC2.mv (q + 1 + 1 + 1)).u7 2 (sg s z (q + 1 + 1) - 48) (by decide) (by decide))
      have hD3 := (hD2.mv (q + 1 + 1 + 1)).u (a := 63) (j := 1) (x := sg s z (q + 1 + 1) - 48) (Or.inr rfl)
      have k2 := c_k2 T hC3 (by omega)
      have j2 := m_e1 XB_X9_readsEnd_53_13 T hD3 (by omega) 997 (v := 2) (Or.inr rfl)
      by_cases g2 : FG s z (q + 1 + 1 + 1) 1 9
      · have q3 : q + 1 + 1 + 1 < z := sg_lt (s := s) (by unfold FG at g2; omega)
        have hC4 := ((hC3.mv (q + 1 + 1 + 1 + 1)).u7 3 (sg s z (q + 1 + 1 + 1) - 48) (by decide) (by decide))
        have hD4 := (hD3.mv (q + 1 + 1 + 1 + 1)).u (a := 63) (j := 2) (x := sg s z (q + 1 + 1 + 1) - 48) (Or.inr rfl)
        have k3 := c_k3 T hC4 (by omega)
        have sr := sk_r (s := s) (z := z) (p := q + 1 + 1 + 1 + 1) (by omega)
        obtain ⟨r, hr⟩ : ∃ r, r = sk s z (q + 1 + 1 + 1 + 1) := ⟨_, rfl⟩
        have hC5 := hC4.mv r
        have hD5 := hD4.mv r
        have cE := (k0.1 g0).trans ((k1.1 g1).trans ((k2.1 g2).trans k3))
        rw [← hr] at cE sr
        have mS := m_skip T hD4 (by omega)
        rw [← hr] at mS
        have mE := (m0.trans (j0.1 g0)).trans ((j1.1 g1).trans (j2.1 g2))
        rw [show (997 : Nat) = 996 + 1 from rfl, XL_X9_readsEnd_53_3, XB_X9_readsEnd_53_3, if_neg (by decide), XB_X9_readsEnd_53_13, mS, ob] at mE
        dsimp +instances only at mE
        rw [hD5.2.2.1, hD5.2.2.2.1, wI_of (x := (r : Int)) (by omega) (by omega), wI_of (x := (z : Int)) (by omega) (by omega)] at mE
        have fc : FC C (am_up (am_up (am_up (am_up (am_up (am_up (am_up (am_up C 7 6 ((q + 1 : Nat) : Int)) 7 6 ((q + 1 + 1 : Nat) : Int)) 7 1 (sg s z (q + 1) - 48)) 7 6 ((q + 1 + 1 + 1 : Nat) : Int)) 7 2 (sg s z (q + 1 + 1) - 48)) 7 6 ((q + 1 + 1 + 1 + 1 : Nat) : Int)) 7 3 (sg s z (q + 1 + 1 + 1) - 48)) 7 6 (r : Int)) := fun a h1 h2 h3 h4 => by
          rw [up_a h1, up_a h1, up_a h1, up_a h1, up_a h1, up_a h1, up_a h1, up_a h1]
        have fd : FD D (am_up (am_up (am_up (am_up (am_up (am_up (am_up (am_up D 53 14 ((q + 1 : Nat) : Int)) 53 14 ((q + 1 + 1 : Nat) : Int)) 63 0 (sg s z (q + 1) - 48)) 53 14 ((q + 1 + 1 + 1 : Nat) : Int)) 63 1 (sg s z (q + 1 + 1) - 48)) 53 14 ((q + 1 + 1 + 1 + 1 : Nat) : Int)) 63 2 (sg s z (q + 1 + 1 + 1) - 48)) 53 14 (r : Int)) := (((((((FD.u53 (by decide)).tr (FD.u53 (by decide))).tr (FD.u (Or.inr rfl))).tr (FD.u53 (by decide))).tr (FD.u (Or.inr rfl))).tr (FD.u53 (by decide))).tr (FD.u (Or.inr rfl))).tr (FD.u53 (by decide))
        by_cases c : r < z
        · rw [if_pos c] at cE
          rw [if_neg (by omega)] at mE
          exact ⟨_, _, _, c_out cE hC5, m_out T hD hq mE hD5, OUT.f fc fd ⟨hC5.2.2.2.2.2.2.1, hC5.2.2.2.2.2.2.2⟩ (by omega)⟩
        · rw [if_neg c] at cE
          rw [if_pos (by omega)] at mE
          refine ⟨-9, _, _, ?_, ?_, fc, fd, ⟨hC5.2.2.2.2.2.2.1, hC5.2.2.2.2.2.2.2⟩, by decide, fun _ => ⟨n, hn, hC5.2.2.2.2.2.1, hD5.2.2.2.2, fun j hj => ?_, ⟨?_, ?_, ?_⟩, ?_, ?_, ?_⟩⟩
          · rw [XB_X5_read_7_4, cE, ob]
            dsimp +instances only
            rw [if_neg (by decide)]
          · rw [XB_X9_faultOf_53_6, if_neg (by decide), hD.2.2.1, hD.2.2.2.1, wI_of (x := (q : Int)) (by omega) (by omega), wI_of (x := (z : Int)) (by omega) (by omega), if_pos (by omega), mE, ob]
            dsimp +instances only
            rw [if_neg (by decide)]
          · exact hE j hj
          · rfl
          · rfl
          · rfl
          · show 0 ≤ sg s z (q + 1) - 48 ∧ sg s z (q + 1) - 48 ≤ (n : Int)
            unfold FG at g0; omega
          · show 0 ≤ sg s z (q + 1 + 1) - 48 ∧ sg s z (q + 1 + 1) - 48 ≤ 9
            unfold FG at g1; omega
          · show 0 ≤ sg s z (q + 1 + 1 + 1) - 48 ∧ sg s z (q + 1 + 1 + 1) - 48 ≤ 9
            unfold FG at g2; omega
      · have hC5 := hC3.u7 3 (-1) (by decide) (by decide)
        have hD5 := hD3.u (a := 63) (j := 2) (x := -9) (Or.inr rfl)
        have cE := (k0.1 g0).trans ((k1.1 g1).trans (k2.2 g2))
        have mE := (m0.trans (j0.1 g0)).trans ((j1.1 g1).trans (j2.2 g2))
        refine ⟨_, _, _, c_out cE hC5, m_out T hD hq mE hD5, OUT.f (fun a h1 h2 h3 h4 => ?_) ?_ ⟨hC5.2.2.2.2.2.2.1, hC5.2.2.2.2.2.2.2⟩ (by omega)⟩
        · rw [up_a h1, up_a h1, up_a h1, up_a h1, up_a h1, up_a h1]
        · exact (((((FD.u53 (by decide)).tr (FD.u53 (by decide))).tr (FD.u (Or.inr rfl))).tr (FD.u53 (by decide))).tr (FD.u (Or.inr rfl))).tr (FD.u (Or.inr rfl))
    · have hC5 := hC2.u7 2 (-1) (by decide) (by decide)
      have hD5 := hD2.u (a := 63) (j := 1) (x := -9) (Or.inr rfl)
      have cE := (k0.1 g0).trans (k1.2 g1)
      have mE := (m0.trans (j0.1 g0)).trans (j1.2 g1)
      refine ⟨_, _, _, c_out cE hC5, m_out T hD hq mE hD5, OUT.f (fun a h1 h2 h3 h4 => ?_) ?_ ⟨hC5.2.2.2.2.2.2.1, hC5.2.2.2.2.2.2.2⟩ (by omega)⟩
      · rw [up_a h1, up_a h1, up_a h1, up_a h1]
      · exact (((FD.u53 (by decide)).tr (FD.u53 (by decide))).tr (FD.u (Or.inr rfl))).tr (FD.u (Or.inr rfl))
  · have hC5 := hC1.u7 1 (-1) (by decide) (by decide)
    have hD5 := hD1.u (a := 63) (j := 0) (x := -9) (Or.inr rfl)
    have cE := k0.2 g0
    have mE := m0.trans (j0.2 g0)
    refine ⟨_, _, _, c_out cE hC5, m_out T hD hq mE hD5, OUT.f (fun a h1 h2 h3 h4 => ?_) ?_ ⟨hC5.2.2.2.2.2.2.1, hC5.2.2.2.2.2.2.2⟩ (by omega)⟩
    · rw [up_a h1, up_a h1]
    · exact (FD.u53 (by decide)).tr (FD.u (Or.inr rfl))
