/-! The politest, the least, the most. -/
/-- memory that agrees but for rows and scratch -/
noncomputable def Kr (M M' : am_M) : Prop := (∀ a, (a ≤ 1 ∨ (4 ≤ a ∧ a ≤ 6) ∨ (9 ≤ a ∧ a ≤ 35) ∨ a = 52 ∨ a = 55 ∨ a = 56 ∨ (59 ≤ a ∧ a ≤ 61)) → M' a = M a) ∧ (∀ j, (j = 1 ∨ (8 ≤ j ∧ j ≤ 11)) → M' 53 j = M 53 j) ∧ ∀ j, j < 484 → M' 54 j = M 54 j
theorem Kr.tr {M M1 M2 : am_M} (h : Kr M M1) (g : Kr M1 M2) : Kr M M2 := ⟨fun a q => (g.1 a q).trans (h.1 a q), fun j q => (g.2.1 j q).trans (h.2.1 j q), fun j q => (g.2.2 j q).trans (h.2.2 j q)⟩
theorem Kp.r {M M' : am_M} (h : Kp M M') : Kr M M' := ⟨fun a q => h.1 a (by omega), h.2.1, h.2.2⟩
theorem Kr.row {M : am_M} {a : Nat} {f : Nat → Int} (h : a = 2 ∨ a = 3 ∨ a = 57 ∨ a = 58) : Kr M (am_row M a f) := ⟨fun b q => row_a (by omega), fun j _ => by rw [row_a (by omega)], fun j _ => by rw [row_a (by omega)]⟩
theorem Kr.up {M : am_M} {a k : Nat} {x : Int} (h : a = 2 ∨ a = 3 ∨ a = 57 ∨ a = 58) : Kr M (am_up M a k x) := ⟨fun b q => up_a (by omega), fun j _ => by rw [up_a (by omega)], fun j _ => by rw [up_a (by omega)]⟩
theorem Kr.c {M M' : am_M} (h : Kr M M') : Kc M M' := ⟨fun a q => h.1 a (by omega), h.2.1 1 (by decide), fun j q => h.2.2 j (by omega)⟩
theorem inv_row2 {M M2 : am_M} (I : Inv M) {r n : Nat} (hr : r < 6) (hn : n ≤ 40) (P : Nat → Int) (hP : ∀ j, iR (P j)) (k : Kr M M2) (k2 : ∀ q, M2 2 q = if q = r then (n : Int) else M 2 q) (k3 : ∀ j, M2 3 j = if 40 * r ≤ j ∧ j < 40 * r + n then P (j - 40 * r) else M 3 j) (k57 : ∀ q, M2 57 q = if q = r then (n : Int) else M 57 q) (k58 : ∀ j, 40 * r ≤ j → j < 40 * r + n → M2 58 j = P (j - 40 * r)) (k58' : ∀ j, (j < 40 * r ∨ 40 * r + 40 ≤ j) → M2 58 j = M 58 j) : Inv M2 := by
  obtain ⟨e57, h2, h3, h4⟩ := I.2.1
  obtain ⟨M3, hM3⟩ : ∃ M3 : am_M, M3 = fun c => if c = 2 then M2 2 else if c = 3 then M2 3 else if c = 57 then M2 57 else if c = 58 then M2 58 else M c := ⟨_, rfl⟩
  have z2 : M3 2 = M2 2 := by rw [hM3]; rfl
  have z3 : M3 3 = M2 3 := by rw [hM3]; rfl
  have z57 : M3 57 = M2 57 := by rw [hM3]; rfl
  have z58 : M3 58 = M2 58 := by rw [hM3]; rfl
  have zo : ∀ c, c ≠ 2 → c ≠ 3 → c ≠ 57 → c ≠ 58 → M3 c = M c := fun c q1 q2 q3 q4 => by rw [hM3]; dsimp only; rw [if_neg q1, if_neg q2, if_neg q3, if_neg q4]
  have I3 : Inv M3 := by
    refine inv_rows I zo ?_
    rw [z2, z3, z57, z58]
    refine ⟨funext fun q => ?_, fun q => ?_, fun j => ?_, fun q i hq hi => ?_⟩
    · rw [k57, k2, e57]
    · rw [k2]
      split
      · omega
      · exact h2 q
    · rw [k3]
      split
      · exact hP _
      · exact h3 j
    · rw [k2] at hi
      by_cases c : q = r
      · subst c
        rw [if_pos rfl] at hi
        rw [k58 _ (by omega) (by omega), k3, if_pos (by omega)]
      · rw [if_neg c] at hi
        have := h2 q
        rw [k58' _ (by omega), k3, if_neg (by omega)]
        exact h4 q i hq hi
  refine Kp.inv I3 ⟨fun a ha => ?_, fun j hj => ?_, fun j hj => ?_⟩
  · by_cases c2 : a = 2
    · subst c2; exact z2.symm
    · by_cases c3 : a = 3
      · subst c3; exact z3.symm
      · by_cases c57 : a = 57
        · subst c57; exact z57.symm
        · by_cases c58 : a = 58
          · subst c58; exact z58.symm
          · rw [zo a c2 c3 c57 c58]; exact k.1 a (by omega)
  · rw [zo 53 (by decide) (by decide) (by decide) (by decide)]; exact k.2.1 j hj
  · rw [zo 54 (by decide) (by decide) (by decide) (by decide)]; exact k.2.2 j hj
/-- both rows laid alike -/
theorem inv_plan {M N2 M1 X : am_M} (I : Inv M) {n r : Nat} (hr : r < 6) (hn : n ≤ 40) {T : Nat → Int} (hT : ∀ j, iR (T j)) (kN2 : Kp M N2) (hM1 : M1 = am_row (am_up N2 2 r (n : Int)) 3 fun j => if 40 * r ≤ j ∧ j < 40 * r + n then T (j - 40 * r) else M 3 j) (hX : Kp M1 X) {h : Nat → Int} (w2 : ∀ j, 40 * r ≤ j → j < 40 * r + n → h j = T (j - 40 * r)) (w3 : ∀ j, (j < 40 * r ∨ 40 * r + 40 ≤ j) → h j = X 58 j) : Inv (am_row (am_up X 57 r (n : Int)) 58 h) := by
  have kM1 : Kr M M1 := by rw [hM1]; exact (kN2.r.tr (Kr.up (by decide))).tr (Kr.row (by decide))
  have kE : Kr X (am_row (am_up X 57 r (n : Int)) 58 h) := (Kr.up (by decide)).tr (Kr.row (by decide))
  refine inv_row2 (n := n) I hr hn T hT ((kM1.tr hX.r).tr kE) (fun q => ?_) (fun j => ?_) (fun q => ?_) (fun j j1 j2 => ?_) (fun j j1 => ?_)
  · rw [row_a (by decide), up_a (by decide), hX.1 2 (by decide), hM1, row_a (by decide)]
    by_cases c : q = r
    · subst c; rw [up_s, if_pos rfl]
    · rw [up_j c, if_neg c, kN2.1 2 (by decide)]
  · rw [row_a (by decide), up_a (by decide), hX.1 3 (by decide), hM1, row_s]
  · rw [row_a (by decide)]
    by_cases c : q = r
    · subst c; rw [up_s, if_pos rfl]
    · rw [up_j c, if_neg c, hX.1 57 (by decide), hM1, row_a (by decide), up_a (by decide), kN2.1 57 (by decide)]
  · rw [row_s]; exact w2 j j1 j2
  · rw [row_s, w3 j j1, hX.1 58 (by decide), hM1, row_a (by decide), up_a (by decide), kN2.1 58 (by decide)]
theorem lp_fill37 (k : am_M → am_Rs) (N : am_M) (v : Int) : ∀ (e n i : Nat) (f : Nat → Int), i + e = 13 → e < n → XL_J7_fill_53178_37_1 k n v i 13 (am_row N 37 f) = k (am_row N 37 fun j => if i ≤ j ∧ j < 13 then v else f j) := by
  intro e
  induction e with
  | zero =>
    intro n i f hi hn
    obtain ⟨n, rfl⟩ : ∃ m, n = m + 1 := ⟨n - 1, by omega⟩
    rw [XL_J7_fill_53178_37_1, XB_J7_fill_53178_37_1, wI_of (x := (i : Int)) (by omega) (by omega), if_neg (show ¬ (i : Int) < wI 13 by rw [show wI 13 = 13 from rfl]; omega)]
    refine congrArg (fun F => k (am_row N 37 F)) (funext fun j => ?_)
    rw [if_neg (by omega)]
  | succ e ih =>
    intro n i f hi hn
    obtain ⟨n, rfl⟩ : ∃ m, n = m + 1 := ⟨n - 1, by omega⟩
    rw [XL_J7_fill_53178_37_1, XB_J7_fill_53178_37_1, wI_of (x := (i : Int)) (by omega) (by omega), if_pos (show (i : Int) < wI 13 by rw [show wI 13 = 13 from rfl]; omega), if_pos (by omega), Int.toNat_natCast, up_row, row_row, ← Int.natCast_succ, ih n (i + 1) _ (by omega) (by omega)]
    refine congrArg (fun F => k (am_row N 37 F)) (funext fun j => ?_)
    rw [row_s]
    by_cases c : j = i
    · subst c; rw [if_neg (by omega), if_pos rfl, if_pos (by omega)]
    · by_cases c2 : i + 1 ≤ j ∧ j < 13
      · rw [if_pos c2, if_pos (by omega)]
      · rw [if_neg c2, if_neg c, if_neg (by omega)]
theorem sp_tollNo (M : am_M) : ∃ f, X_X4_tollNothing_36 M = some (0, am_row M 37 f) ∧ ∀ p : Nat, p < 13 → f p = 0 := by
  have := lp_fill37 XB_J7_fill_53178_37_3 M 0 13 1000 0 (M 37) (by omega) (by omega)
  rw [row_self, show ((0 : Nat) : Int) = 0 from rfl] at this
  refine ⟨fun j => if 0 ≤ j ∧ j < 13 then 0 else M 37 j, ?_, fun p hp => if_pos (by omega)⟩
  rw [X_X4_tollNothing_36, X_J7_fill_53178_37, XB_J7_fill_53178_37_e, this]; rfl
theorem cC_r {br : Int} (hb : br = 0 ∨ br = 1) (M : am_M) {D : Int → Int} (hD : ∀ b, -1944 ≤ D b ∧ D b ≤ 1944) (d : Int) (k : Nat) (p m : Int) : -2000 ≤ cC br (mv_ M) D d k p m ∧ cC br (mv_ M) D d k p m ≤ 2000 := by
  have h1 := mv_r M p m (d + k)
  have h2 := hD (p + m)
  unfold cC
  generalize mv_ M p m (d + k) = x at h1 ⊢
  generalize D (p + m) = y at h2 ⊢
  rcases hb with rfl | rfl
  · rw [if_pos rfl]; split <;> omega
  · rw [if_neg (by decide)]; split <;> omega
/-- the table's first row tells what is answered -/
theorem m_at {s : Int} {U : Nat → Int → Option Int} {n : Nat} {f : Nat → Int} {F b : Int} (hT : Tb F s U n 0 f) (hb : 0 ≤ b ∧ b ≤ s) : f b.toNat = enc F (U 0 b) := by
  obtain ⟨q, rfl⟩ := Int.eq_ofNat_of_zero_le hb.1
  have := hT 0 (Nat.le_refl _) (Nat.zero_le _) q hb.2
  rw [Nat.mul_zero, Nat.zero_add] at this
  rw [Int.toNat_natCast]; exact this
theorem iR_p {x : Int} (h : -1 ≤ x ∧ x ≤ 1) : iR x := by unfold iR; omega
theorem eq_polite {M : am_M} (I : Inv M) {p n r : Int} (hp : iR p) (hn : iR n) (hr : iR r) : Step (X_X8_polite_0 p n r) (X_X9_polite_53 p n r) M := gd_polite I hp hn hr fun h1 h2 h3 h4 => by
  obtain ⟨n, rfl⟩ := Int.eq_ofNat_of_zero_le h2.1
  obtain ⟨r, rfl⟩ := Int.eq_ofNat_of_zero_le h3.1
  have rs := I.rs
  have r1 := I.r1
  have hn20 : n ≤ 20 := by omega
  have hr6 : r < 6 := by omega
  obtain ⟨t, t1, t2⟩ := sp_tollNo M
  obtain ⟨C, hC⟩ : ∃ C, C = cC 1 (mv_ M) (fun _ => 0) (M 14 0) := ⟨_, rfl⟩
  have hCr : ∀ k p m, -2000 ≤ C k p m ∧ C k p m ≤ 2000 := fun k p m => by rw [hC]; exact cC_r (Or.inr rfl) M (fun _ => by decide) (M 14 0) k p m
  obtain ⟨N, hN⟩ : ∃ N, N = am_row M 37 t := ⟨_, rfl⟩
  have kN : Kp M N := by rw [hN]; exact Kp.row (by decide)
  have kN1 : Kp N (am_up N 36 6 1) := Kp.up (by decide)
  have nm : mv_ N = mv_ M := by rw [hN]; rfl
  have n14 : N 14 = M 14 := by rw [hN]; rfl
  have n11 : N 11 = M 11 := by rw [hN]; rfl
  have PN : PlI (am_up N 36 6 1) 1 (fun _ => 0) := by
    refine ⟨Kc.ic I.b.c (kN.tr kN1).b.c, up_s, Or.inr rfl, fun p hp => ?_, ?_⟩
    · rw [up_a (by decide), hN, row_s]; exact t2 p hp
    · have e : cC 1 (mv_ (am_up N 36 6 1)) (fun _ => 0) ((am_up N 36 6 1) 14 0) = C := by rw [hC, hN]; rfl
      rw [e]; exact hCr
  obtain ⟨f, s1, s2⟩ := sp_solve PN hn20 (goal := p) (by omega)
  rw [nm, n14, n11, ← hC] at s2
  obtain ⟨N2, hN2⟩ : ∃ N2, N2 = am_row (am_up N 36 6 1) 38 f := ⟨_, rfl⟩
  rw [← hN2] at s1
  have kN2 : Kp M N2 := by rw [hN2]; exact (kN.tr kN1).tr (Kp.row (by decide))
  have n2 : ∀ c, c ≠ 36 → c ≠ 37 → c ≠ 38 → N2 c = M c := fun c q1 q2 q3 => by rw [hN2, row_a q3, up_a q1, hN, row_a q2]
  have n2m : mv_ N2 = mv_ M := by funext b m d; unfold mv_; rw [n2 11 (by decide) (by decide) (by decide), n2 12 (by decide) (by decide) (by decide)]
  have f38 : N2 38 = f := by rw [hN2, row_s]
  have cf : X_X4_costFrom_36 0 (M 14 1) N2 = some (enc 1000000 (uO (mv_ M) C (M 14 0) p n 0 (M 14 1)), N2) := by
    obtain ⟨x, x1, x2⟩ := c_from (M := N2) (k := 0) (by omega) (q := M 14 1) (by omega)
    obtain ⟨q, hq⟩ := Int.eq_ofNat_of_zero_le r1.1
    have := x2 q (by omega) hq
    rw [f38, s2 0 (by omega) (by omega) q (by omega), ← hq] at this
    rw [this] at x1; exact x1
  have hO := uO_ok (mv := mv_ M) (d := M 14 0) (goal := p) hn20 hCr 0 (M 14 1)
  have c0 : X_X8_polite_0 p n r M = (if enc 1000000 (uO (mv_ M) C (M 14 0) p n 0 (M 14 1)) < 1000000 then (X_X8_layPlan_0 n r N2).bind fun z8 => some (enc 1000000 (uO (mv_ M) C (M 14 0) p n 0 (M 14 1)), z8.2) else some (-9, N2)) := by
    rw [X_X8_polite_0, sp_isPlace_11 I.g11 hp, b2_t h1, ob]
    dsimp +instances only
    rw [if_neg (by decide), sp_isPlan M hn, b2_t h2, ob]
    dsimp +instances only
    rw [if_neg (by decide), sp_isNumber_1 I.sh1 hr, b2_t h3, ob]
    dsimp +instances only
    rw [if_neg (by decide), sp_hasNoLand I.g11, b2_f h4, ob]
    dsimp +instances only
    rw [if_pos wI_0, t1, ob]
    dsimp +instances only
    rw [← hN, s1, ob]
    dsimp +instances only
    rw [n2 14 (by decide) (by decide) (by decide), cf, ob]
    dsimp +instances only
    rw [wIe hO]
  -- the reference's side over any memory that keeps the land
  have mS : ∀ N : am_M, Kr M N → ∃ g, X_X9_polite_53 p n r N = (if enc 1048576 (uO (mv_ M) C (M 14 0) p n 0 (M 14 1)) < 1048576 then (X_X9_toRow_53 r n (am_row (am_up N 53 22 0) 64 g)).bind fun z5 => some (enc 1048576 (uO (mv_ M) C (M 14 0) p n 0 (M 14 1)), z5.2) else some (-9, am_row (am_up N 53 22 0) 64 g)) ∧ MlI (am_row (am_up N 53 22 0) 64 g) 0 (N 53 23) C ∧ Tb 1048576 (M 11 0) (uO (mv_ M) C (M 14 0) p n) n 0 g := by
    intro N k
    have B : Ic N := Kc.ic I.b.c k.c
    have q11 := k.c.1 11 (by decide)
    have q12 := k.c.1 12 (by decide)
    have q14 := k.c.1 14 (by decide)
    have km : mv_ N = mv_ M := by funext b m d; unfold mv_; rw [q11, q12]
    have P : MlI (am_up N 53 22 0) 0 (N 53 23) C := by
      refine ⟨Kc.ic B (Kc.up53 (by decide)), up_s, up_j (by decide), ?_, hCr⟩
      intro M' g g1 g2 k p m hk hp hm hmv
      have B' : Ic M' := Kc.ic (Kc.ic B (Kc.up53 (by decide))) g
      have u11 := ((Kc.up53 (M := N) (k := 22) (x := 0) (by decide)).tr g).1 11 (by decide)
      have u12 := ((Kc.up53 (M := N) (k := 22) (x := 0) (by decide)).tr g).1 12 (by decide)
      have um : mv_ M' = mv_ M := by rw [← km]; funext b m d; unfold mv_; rw [u11, u12]
      have e14 : (am_up N 53 22 0) 14 0 = M 14 0 := by rw [up_a (by decide), q14]
      have em : mv_ (am_up N 53 22 0) = mv_ M := by rw [← km]; rfl
      have e11 : (am_up N 53 22 0) 11 0 = M 11 0 := by rw [up_a (by decide), q11]
      rw [em, e14] at hmv
      rw [e11] at hp
      rw [e14]
      have r0 := I.r0
      unfold mvs at hm
      rw [X_X9_costOf_53, XB_X9_costOf_53_e, g1, if_pos wI_0, km_rud B' (b := p) (m := m) (d := M 14 0 + k) (by rw [u11, q11]; exact hp) (by omega) (by omega), ob, um, hC]
      unfold mr_ cC
      rw [if_neg hmv, if_neg (show ¬ (1 : Int) = 0 by decide)]
      split <;> rw [Int.add_zero]
    obtain ⟨g, v1, v2⟩ := sp_values P hn20 (goal := p) (by omega)
    have em : mv_ (am_up N 53 22 0) = mv_ M := by rw [← km]; rfl
    rw [em, up_a (by decide), up_a (by decide), q11, q14] at v2
    refine ⟨g, ?_, P.k (Kc.row (by decide)) rfl rfl, v2⟩
    have e1 : (am_row (am_up N 53 22 0) 64 g) 54 1 = M 14 1 := by
      rw [row_a (by decide), up_a (by decide), k.2.2 1 (by decide), I.d1]
    have hO2 := wIm hO
    rw [X_X9_polite_53, sp_isPlace (by rw [k.2.1 1 (by decide), I.es]; exact rs) hp, k.2.1 1 (by decide), I.es, b2_t h1, ob]
    dsimp +instances only
    rw [if_neg (by decide), wI_R hn, sp_in N hn i0 i20, b2_t h2, ob]
    dsimp +instances only
    rw [if_neg (by decide), sp_isRow N hr, b2_t h3, ob]
    dsimp +instances only
    rw [if_neg (by decide), k.2.1 1 (by decide), I.es, wI_of (x := M 11 0) (by omega) (by omega), if_neg h4, v1, ob]
    dsimp +instances only
    rw [e1, wI_of (x := M 14 1) (by omega) (by omega), if_pos (by omega), row_s, m_at v2 r1, hO2]
  cases hx : uO (mv_ M) C (M 14 0) p n 0 (M 14 1) with
  | none =>
    rw [hx] at c0
    rw [if_neg (show ¬ enc 1000000 none < 1000000 by decide)] at c0
    obtain ⟨g, m1, m2, m3⟩ := mS N2 kN2.r
    rw [hx, if_neg (show ¬ enc 1048576 none < 1048576 by decide)] at m1
    exact st_kp I c0 kN2 m1 ((Kp.up53 (by decide)).tr (Kp.row (by decide))) rfl
  | some x =>
    have hxr := hO x hx
    rw [hx, if_pos (show enc 1000000 (some x) < 1000000 by show x < 1000000; omega)] at c0
    have P2 : PlI N2 1 (fun _ => 0) := by rw [hN2]; exact PN.k (Kc.row (by decide)) rfl rfl
    have pl := sp_plan P2 (show Sh1 N2 by unfold Sh1; rw [n2 1 (by decide) (by decide) (by decide), n2 2 (by decide) (by decide) (by decide)]; exact I.sh1) hn20 (goal := p) (r := r) (x := x) (by rw [n2m, n2 11 (by decide) (by decide) (by decide), n2 14 (by decide) (by decide) (by decide), f38, ← hC]; exact s2) hr6 (by rw [n2m, n2 14 (by decide) (by decide) (by decide), ← hC]; exact hx)
    rw [n2m, n2 14 (by decide) (by decide) (by decide), n2 3 (by decide) (by decide) (by decide), ← hC] at pl
    obtain ⟨M1, hM1⟩ : ∃ M1, M1 = am_row (am_up N2 2 r n) 3 fun j => if 40 * r ≤ j ∧ j < 40 * r + n then ptO (mv_ M) C (M 14 0) p n n 0 (M 14 1) (j - 40 * r) else M 3 j := ⟨_, rfl⟩
    rw [← hM1] at pl
    rw [pl, ob] at c0
    have kM1 : Kr M M1 := by rw [hM1]; exact (kN2.r.tr (Kr.up (by decide))).tr (Kr.row (by decide))
    obtain ⟨g, m1, m2, m3⟩ := mS M1 kM1
    rw [hx, if_pos (show enc 1048576 (some x) < 1048576 by show x < 1048576; omega)] at m1
    have q11 := kM1.c.1 11 (by decide)
    have q12 := kM1.c.1 12 (by decide)
    have q14 := kM1.c.1 14 (by decide)
    have em : mv_ (am_row (am_up M1 53 22 0) 64 g) = mv_ M := by funext b m d; unfold mv_; rw [row_a (by decide), row_a (by decide), up_a (by decide), up_a (by decide), q11, q12]
    have e11 : (am_row (am_up M1 53 22 0) 64 g) 11 = M 11 := by rw [row_a (by decide), up_a (by decide), q11]
    have e14 : (am_row (am_up M1 53 22 0) 64 g) 14 = M 14 := by rw [row_a (by decide), up_a (by decide), q14]
    obtain ⟨h, w1, w2, w3⟩ := sp_toRow m2 hn20 (goal := p) (r := r) (x := x) (by rw [em, e11, e14, row_s]; exact m3) hr6 (by rw [em, e14]; exact hx)
    rw [em, e14] at w2
    rw [w1, ob] at m1
    exact ⟨_, _, _, _, c0, m1, rfl, inv_plan I hr6 (by omega) (fun j => iR_p (ptO_r _ _ _ _ _ _ _ _ j)) kN2 hM1 ((Kp.up53 (by decide)).tr (Kp.row (by decide))) w2 w3⟩
