/-! The least that a strip pays, the most that a crown gets. -/
theorem omin_n {a b : Option Int} (h : omin a b = none) : a = none ∧ b = none := by
  cases a with
  | none => exact ⟨rfl, h⟩
  | some x =>
    cases b with
    | none => cases h
    | some y =>
      change (if y < x then some y else some x) = none at h
      split at h <;> cases h
theorem vO_some {mv : Int → Int → Int → Int} (hm : ∀ p d, mv p 0 d = 0) (C : Nat → Int → Int → Int) (d : Int) : ∀ (e k : Nat) (p : Int), ∃ x, vO mv C d (gO (-1)) e k p = some x
  | 0, k, p => ⟨0, rfl⟩
  | e + 1, k, p => by
    obtain ⟨y, hy⟩ := vO_some hm C d e (k + 1) (p + 0)
    cases h : vO mv C d (gO (-1)) (e + 1) k p with
    | some x => exact ⟨x, rfl⟩
    | none =>
      exfalso
      rw [vO] at h
      have h2 := (omin_n (omin_n h).1).2
      unfold byO at h2
      rw [if_neg (by rw [hm]; decide), hy] at h2
      cases h2
theorem km_paysOn {M : am_M} (I : Ic M) {i d b : Int} (hi : 0 ≤ i ∧ i < M 11 0) (hd : 0 ≤ d ∧ d < 1000) (hb : 0 ≤ b ∧ b ≤ 12) : X_X9_paysOn_53 i d b M = some (if d % 10 = 9 ∧ d < 40 then db_ M i b else 0, M) := by
  rw [X_X9_paysOn_53, sp_isTaxed M hd, ob]
  dsimp +instances only
  by_cases c : d % 10 = 9 ∧ d < 40
  · rw [if_neg (show ¬ wI (b2 (d % 10 = 9 ∧ d < 40)) = 0 by rw [b2_t c]; decide), km_both I hi hb, if_pos c]; rfl
  · rw [if_pos (show wI (b2 (d % 10 = 9 ∧ d < 40)) = 0 by rw [b2_f c]; rfl), if_neg c]
theorem Kc.db {M N : am_M} (k : Kc M N) : db_ N = db_ M := by
  funext i b
  unfold db_ du_
  rw [k.1 12 (by decide), k.1 13 (by decide), k.1 14 (by decide)]
theorem Kc.mv {M N : am_M} (k : Kc M N) : mv_ N = mv_ M := by
  funext b m d
  unfold mv_
  rw [k.1 11 (by decide), k.1 12 (by decide)]
theorem Kc.du {M N : am_M} (k : Kc M N) : du_ N = du_ M := by
  funext c i b
  unfold du_
  rw [k.1 12 (by decide), k.1 13 (by decide), k.1 14 (by decide)]
theorem eq_least {M : am_M} (I : Inv M) {i n r : Int} (hi : iR i) (hn : iR n) (hr : iR r) : Step (X_X8_least_0 i n r) (X_X9_least_53 i n r) M := gd_least I hi hn hr fun h1 h2 h3 => by
  obtain ⟨n, rfl⟩ := Int.eq_ofNat_of_zero_le h2.1
  obtain ⟨r, rfl⟩ := Int.eq_ofNat_of_zero_le h3.1
  have rs := I.rs
  have r0 := I.r0
  have r1 := I.r1
  have hn20 : n ≤ 20 := by omega
  have hr6 : r < 6 := by omega
  obtain ⟨t, t1, t2⟩ := sp_tolls I.b h1
  obtain ⟨C, hC⟩ : ∃ C, C = cC 0 (mv_ M) (db_ M i) (M 14 0) := ⟨_, rfl⟩
  have hCr : ∀ k p m, -2000 ≤ C k p m ∧ C k p m ≤ 2000 := fun k p m => by rw [hC]; exact cC_r (Or.inl rfl) M (fun b => by have := db_r I.b i b; omega) (M 14 0) k p m
  obtain ⟨N, hN⟩ : ∃ N, N = am_row M 37 t := ⟨_, rfl⟩
  have kN : Kp M N := by rw [hN]; exact Kp.row (by decide)
  have kN1 : Kp N (am_up N 36 6 0) := Kp.up (by decide)
  have nm : mv_ N = mv_ M := kN.b.c.mv
  have n14 : N 14 = M 14 := kN.1 14 (by decide)
  have n11 : N 11 = M 11 := kN.1 11 (by decide)
  have PN : PlI (am_up N 36 6 0) 0 (db_ M i) := by
    refine ⟨Kc.ic I.b.c (kN.tr kN1).b.c, up_s, Or.inl rfl, fun p hp => ?_, ?_⟩
    · rw [up_a (by decide), hN, row_s]; exact t2 p hp
    · have e : cC 0 (mv_ (am_up N 36 6 0)) (db_ M i) ((am_up N 36 6 0) 14 0) = C := by rw [hC, (kN.tr kN1).b.c.mv, (kN.tr kN1).1 14 (by decide)]
      rw [e]; exact hCr
  obtain ⟨f, s1, s2⟩ := sp_solve PN hn20 (goal := -1) (by decide)
  rw [nm, n14, n11, ← hC] at s2
  obtain ⟨N2, hN2⟩ : ∃ N2, N2 = am_row (am_up N 36 6 0) 38 f := ⟨_, rfl⟩
  rw [← hN2] at s1
  have kN2 : Kp M N2 := by rw [hN2]; exact (kN.tr kN1).tr (Kp.row (by decide))
  have n2m : mv_ N2 = mv_ M := kN2.b.c.mv
  have n2_14 : N2 14 = M 14 := kN2.1 14 (by decide)
  have f38 : N2 38 = f := by rw [hN2, row_s]
  have hO := uO_ok (mv := mv_ M) (d := M 14 0) (goal := -1) hn20 hCr 0 (M 14 1)
  obtain ⟨x, hx⟩ : ∃ x, uO (mv_ M) C (M 14 0) (-1) n 0 (M 14 1) = some x := vO_some (fun p d => mv_0 M p d) C (M 14 0) (n - 0) 0 (M 14 1)
  have P2 : PlI N2 0 (db_ M i) := by rw [hN2]; exact PN.k (Kc.row (by decide)) rfl rfl
  have pl := sp_plan P2 (show Sh1 N2 by unfold Sh1; rw [kN2.1 1 (by decide), kN2.1 2 (by decide)]; exact I.sh1) hn20 (goal := -1) (r := r) (x := x) (by rw [n2m, kN2.1 11 (by decide), n2_14, f38, ← hC]; exact s2) hr6 (by rw [n2m, n2_14, ← hC]; exact hx)
  rw [n2m, n2_14, kN2.1 3 (by decide), ← hC] at pl
  obtain ⟨M1, hM1⟩ : ∃ M1, M1 = am_row (am_up N2 2 r n) 3 fun j => if 40 * r ≤ j ∧ j < 40 * r + n then ptO (mv_ M) C (M 14 0) (-1) n n 0 (M 14 1) (j - 40 * r) else M 3 j := ⟨_, rfl⟩
  rw [← hM1] at pl
  have m1_38 : M1 38 = f := by rw [hM1, row_a (by decide), up_a (by decide), f38]
  have m1_14 : M1 14 1 = M 14 1 := by rw [hM1, row_a (by decide), up_a (by decide), n2_14]
  have cf : X_X4_costFrom_36 0 (M 14 1) M1 = some (enc 1000000 (uO (mv_ M) C (M 14 0) (-1) n 0 (M 14 1)), M1) := by
    obtain ⟨x, x1, x2⟩ := c_from (M := M1) (k := 0) (by omega) (q := M 14 1) (by omega)
    obtain ⟨q, hq⟩ := Int.eq_ofNat_of_zero_le r1.1
    have := x2 q (by omega) hq
    rw [m1_38, s2 0 (by omega) (by omega) q (by omega), ← hq] at this
    rw [this] at x1; exact x1
  have c0 : X_X8_least_0 i n r M = some (x, M1) := by
    rw [X_X8_least_0, sp_has_11 I.g11 hi, b2_t h1, ob]
    dsimp +instances only
    rw [if_neg (by decide), sp_isPlan M hn, b2_t h2, ob]
    dsimp +instances only
    rw [if_neg (by decide), sp_isNumber_1 I.sh1 hr, b2_t h3, ob]
    dsimp +instances only
    rw [if_neg (by decide), t1, ob]
    dsimp +instances only
    rw [← hN, s1, ob]
    dsimp +instances only
    rw [pl, ob]
    dsimp +instances only
    rw [m1_14, cf, ob, hx]
    rfl
  have kM1 : Kr M M1 := by rw [hM1]; exact (kN2.r.tr (Kr.up (by decide))).tr (Kr.row (by decide))
  have B : Ic M1 := Kc.ic I.b.c kM1.c
  have kk : Kp M1 (am_up (am_up M1 53 22 1) 53 23 i) := (Kp.up53 (by decide)).tr (Kp.up53 (by decide))
  have kt : Kc M (am_up (am_up M1 53 22 1) 53 23 i) := kM1.c.tr kk.b.c
  have P : MlI (am_up (am_up M1 53 22 1) 53 23 i) 1 i C := by
    refine ⟨Kc.ic B kk.b.c, by rw [up_j (by decide), up_s], up_s, ?_, hCr⟩
    intro M' g g1 g2 k p m hk hp hm hmv
    have B' : Ic M' := Kc.ic (Kc.ic B kk.b.c) g
    have kt' := kt.tr g
    rw [kt.1 11 (by decide)] at hp
    rw [kt.mv, kt.1 14 (by decide)] at hmv
    rw [kt.1 14 (by decide)]
    have hb := mv_in (M := M) hm hp hmv
    rw [X_X9_costOf_53, XB_X9_costOf_53_e, g1, if_neg (by decide), if_pos (by decide), g2, km_paysOn B' (by rw [kt'.1 11 (by decide)]; exact h1) (by omega) (by omega), ob, kt'.db, hC]
    unfold cC
    rw [if_pos rfl, Int.zero_add]
  obtain ⟨g, v1, v2⟩ := sp_values P hn20 (goal := -1) (by decide)
  rw [kt.mv, kt.1 11 (by decide), kt.1 14 (by decide)] at v2
  obtain ⟨X, hX⟩ : ∃ X, X = am_row (am_up (am_up M1 53 22 1) 53 23 i) 64 g := ⟨_, rfl⟩
  rw [← hX] at v1
  have kX : Kp M1 X := by rw [hX]; exact kk.tr (Kp.row (by decide))
  have ktX : Kc M X := kM1.c.tr kX.b.c
  have PX : MlI X 1 i C := by rw [hX]; exact P.k (Kc.row (by decide)) rfl rfl
  have x64 : X 64 = g := by rw [hX, row_s]
  obtain ⟨h, w1, w2, w3⟩ := sp_toRow PX hn20 (goal := -1) (r := r) (x := x) (by rw [ktX.mv, ktX.1 11 (by decide), ktX.1 14 (by decide), x64]; exact v2) hr6 (by rw [ktX.mv, ktX.1 14 (by decide)]; exact hx)
  rw [ktX.mv, ktX.1 14 (by decide)] at w2
  have m0 : X_X9_least_53 i n r M1 = some (x, am_row (am_up X 57 r n) 58 h) := by
    have e1 : (am_row (am_up X 57 r (n : Int)) 58 h) 54 1 = M 14 1 := by
      rw [row_a (by decide), up_a (by decide), ktX.2.2 1 (by decide), I.d1]
    have e64 : (am_row (am_up X 57 r (n : Int)) 58 h) 64 = g := by rw [row_a (by decide), up_a (by decide), x64]
    rw [X_X9_least_53, sp_isStrip (by rw [kM1.2.1 1 (by decide), I.es]; exact rs) hi, kM1.2.1 1 (by decide), I.es, b2_t h1, ob]
    dsimp +instances only
    rw [if_neg (by decide), wI_R hn, sp_in M1 hn i0 i20, b2_t h2, ob]
    dsimp +instances only
    rw [if_neg (by decide), sp_isRow M1 hr, b2_t h3, ob]
    dsimp +instances only
    rw [if_neg (by decide), v1, ob]
    dsimp +instances only
    rw [w1, ob]
    dsimp +instances only
    rw [e1, wI_of (x := M 14 1) (by omega) (by omega), if_pos (by omega), e64, m_at v2 r1, hx]
    rfl
  exact ⟨_, _, _, _, c0, m0, rfl, inv_plan I hr6 (by omega) (fun j => iR_p (ptO_r _ _ _ _ _ _ _ _ j)) kN2 hM1 kX w2 w3⟩
/-! the most that a crown gets -/
theorem sf_r {a : Nat → Int} {B : Int} (h : ∀ j, 0 ≤ a j ∧ a j ≤ B) : ∀ (d i : Nat), 0 ≤ sf a i d ∧ sf a i d ≤ B * d
  | 0, i => by simp [sf]
  | d + 1, i => by
    have h1 := sf_r h d (i + 1)
    have h2 := h i
    simp only [sf]
    rw [Int.natCast_succ, Int.mul_add, Int.mul_one]
    omega
theorem dC_r {M : am_M} (I : Ib M) (c b : Int) : 0 ≤ dC_ M c b ∧ dC_ M c b ≤ 1944 := by
  have rs := I.rs
  have := sf_r (a := fun j => du_ M c j b) (B := 162) (fun j => du_r I c j b) (M 11 0).toNat 0
  unfold dC_
  omega
theorem lp_lost (k : am_M → am_Rs) {N : am_M} (F : Nat → Int) (v : Int) (hP : ∀ (f : Nat → Int) (p : Nat), p < 13 → X_X1_dueToCrown_14_11 v p (am_row N 37 f) = some (F p, am_row N 37 f)) : ∀ (e n i : Nat) (f : Nat → Int), i + e = 13 → e < n → XL_X4_tollLostBy_36_1 k n v i (am_row N 37 f) = k (am_row N 37 fun j => if i ≤ j ∧ j < 13 then -F j else f j) := by
  intro e
  induction e with
  | zero =>
    intro n i f hi hn
    obtain ⟨n, rfl⟩ : ∃ m, n = m + 1 := ⟨n - 1, by omega⟩
    rw [XL_X4_tollLostBy_36_1, XB_X4_tollLostBy_36_1, wI_of (x := (i : Int)) (by omega) (by omega), if_neg (by omega)]
    refine congrArg (fun F => k (am_row N 37 F)) (funext fun j => ?_)
    rw [if_neg (by omega)]
  | succ e ih =>
    intro n i f hi hn
    obtain ⟨n, rfl⟩ : ∃ m, n = m + 1 := ⟨n - 1, by omega⟩
    rw [XL_X4_tollLostBy_36_1, XB_X4_tollLostBy_36_1, wI_of (x := (i : Int)) (by omega) (by omega), if_pos (by omega), hP f i (by omega), ob]
    dsimp +instances only
    rw [if_pos (by omega), Int.toNat_natCast, up_row, row_row, ← Int.natCast_succ, ih n (i + 1) _ (by omega) (by omega)]
    refine congrArg (fun F => k (am_row N 37 F)) (funext fun j => ?_)
    rw [row_s]
    by_cases c : j = i
    · subst c; rw [if_neg (by omega), if_pos rfl, if_pos (by omega)]
    · by_cases c2 : i + 1 ≤ j ∧ j < 13
      · rw [if_pos c2, if_pos (by omega)]
      · rw [if_neg c2, if_neg c, if_neg (by omega)]
theorem sp_lost {M : am_M} (I : Ib M) {c : Int} (hc : c = 0 ∨ c = 1) : ∃ f, X_X4_tollLostBy_36 c M = some (0, am_row M 37 f) ∧ ∀ p : Nat, p < 13 → f p = -dC_ M c p := by
  have := lp_lost XB_X4_tollLostBy_36_3 (N := M) (fun p => dC_ M c p) c (fun f p hp => by
    have B : Ib (am_row M 37 f) := Kb.ib I (Kp.row (by decide)).b
    exact sp_dc B hc (by omega)) 13 1000 0 (M 37) (by omega) (by omega)
  rw [row_self, show ((0 : Nat) : Int) = 0 from rfl] at this
  refine ⟨fun j => if 0 ≤ j ∧ j < 13 then -dC_ M c j else M 37 j, ?_, fun p hp => if_pos (by omega)⟩
  rw [X_X4_tollLostBy_36, XB_X4_tollLostBy_36_e, this]; rfl
theorem lp_costM (k : Int → am_M → am_Rs) {M : am_M} (I : Ic M) {c : Int} (hc : c = 0 ∨ c = 1) (h23 : M 53 23 = c) {p m d : Int} (hb : 0 ≤ p + m ∧ p + m ≤ 12) (hd : 0 ≤ d ∧ d < 1000) (ht : d % 10 = 9 ∧ d < 40) : ∀ (e n i : Nat) (acc : Int), (i : Int) + e = M 11 0 → e < n → XL_X9_costOf_53_5 k n p d m acc i M = k (acc - sf (fun j => du_ M c j (p + m)) i e) M := by
  intro e
  induction e with
  | zero =>
    intro n i acc hi hn
    have rs := I.rs
    obtain ⟨n, rfl⟩ : ∃ m, n = m + 1 := ⟨n - 1, by omega⟩
    rw [XL_X9_costOf_53_5, XB_X9_costOf_53_5, I.es, wI_of (x := (i : Int)) (by omega) (by omega), wI_of (x := M 11 0) (by omega) (by omega), if_neg (by omega)]
    simp only [sf, Int.sub_zero]
  | succ e ih =>
    intro n i acc hi hn
    have rs := I.rs
    obtain ⟨n, rfl⟩ : ∃ m, n = m + 1 := ⟨n - 1, by omega⟩
    have pt : ∀ x : Nat, (x : Int) = 2 + c → X_X9_paysTo_53 i c (p + m) (M 54 x) M = some (du_ M c i (p + m), M) := by
      intro x hx
      rcases hc with rfl | rfl
      · rw [show x = 2 by omega]; exact km_due0 I (by omega) hb
      · rw [show x = 3 by omega]; exact km_due1 I (by omega) hb
    have ih := ih n (i + 1) (acc - du_ M c i (p + m)) (by push_cast; omega) (by omega)
    rw [XL_X9_costOf_53_5, XB_X9_costOf_53_5, I.es, wI_of (x := (i : Int)) (by omega) (by omega), wI_of (x := M 11 0) (by omega) (by omega), if_pos (by omega), sp_isTaxed M hd, b2_t ht, ob]
    dsimp +instances only
    rw [if_neg (by decide), h23, wI_of (x := 2 + c) (by omega) (by omega), if_pos (by omega), pt (2 + c).toNat (by omega), ob]
    simp only [sf]
    rw [show acc - (du_ M c i (p + m) + sf (fun j => du_ M c j (p + m)) (i + 1) e) = acc - du_ M c i (p + m) - sf (fun j => du_ M c j (p + m)) (i + 1) e by omega]
    exact ih
theorem km_costM {M : am_M} (I : Ic M) {c : Int} (hc : c = 0 ∨ c = 1) (h22 : M 53 22 = 2) (h23 : M 53 23 = c) {p m d : Int} (hb : 0 ≤ p + m ∧ p + m ≤ 12) (hd : 0 ≤ d ∧ d < 1000) : X_X9_costOf_53 p d m M = some (if d % 10 = 9 ∧ d < 40 then -dC_ M c (p + m) else 0, M) := by
  have rs := I.rs
  rw [X_X9_costOf_53, XB_X9_costOf_53_e, h22, if_neg (by decide), if_neg (by decide)]
  by_cases ht : d % 10 = 9 ∧ d < 40
  · have := lp_costM XB_X9_costOf_53_8 I hc h23 hb hd ht (M 11 0).toNat 1000 0 0 (by omega) (by omega)
    rw [show ((0 : Nat) : Int) = 0 from rfl, Int.zero_sub] at this
    rw [this, if_pos ht]; rfl
  · rw [if_neg ht, XL_X9_costOf_53_5, XB_X9_costOf_53_5, I.es, wI_0, wI_of (x := M 11 0) (by omega) (by omega), sp_isTaxed M hd, b2_f ht, ob]
    dsimp +instances only
    rw [if_pos wI_0]
    split <;> rfl
theorem eq_most {M : am_M} (I : Inv M) {c n : Int} (hc : iR c) (hn : iR n) : Step (X_X8_most_0 c n) (X_X9_most_53 c n) M := gd_most I hc hn fun h1 h2 h3 => by
  obtain ⟨n, rfl⟩ := Int.eq_ofNat_of_zero_le h2.1
  have c01 : c = 0 ∨ c = 1 := by omega
  have rs := I.rs
  have r0 := I.r0
  have r1 := I.r1
  have hn20 : n ≤ 20 := by omega
  obtain ⟨t, t1, t2⟩ := sp_lost I.b c01
  obtain ⟨C, hC⟩ : ∃ C, C = cC 0 (mv_ M) (fun b => -dC_ M c b) (M 14 0) := ⟨_, rfl⟩
  have hCr : ∀ k p m, -2000 ≤ C k p m ∧ C k p m ≤ 2000 := fun k p m => by rw [hC]; exact cC_r (Or.inl rfl) M (fun b => by have := dC_r I.b c b; omega) (M 14 0) k p m
  obtain ⟨N, hN⟩ : ∃ N, N = am_row M 37 t := ⟨_, rfl⟩
  have kN : Kp M N := by rw [hN]; exact Kp.row (by decide)
  have kN1 : Kp N (am_up N 36 6 0) := Kp.up (by decide)
  have PN : PlI (am_up N 36 6 0) 0 (fun b => -dC_ M c b) := by
    refine ⟨Kc.ic I.b.c (kN.tr kN1).b.c, up_s, Or.inl rfl, fun p hp => ?_, ?_⟩
    · rw [up_a (by decide), hN, row_s]; exact t2 p hp
    · have e : cC 0 (mv_ (am_up N 36 6 0)) (fun b => -dC_ M c b) ((am_up N 36 6 0) 14 0) = C := by rw [hC, (kN.tr kN1).b.c.mv, (kN.tr kN1).1 14 (by decide)]
      rw [e]; exact hCr
  obtain ⟨f, s1, s2⟩ := sp_solve PN hn20 (goal := -1) (by decide)
  rw [kN.b.c.mv, kN.1 14 (by decide), kN.1 11 (by decide), ← hC] at s2
  obtain ⟨N2, hN2⟩ : ∃ N2, N2 = am_row (am_up N 36 6 0) 38 f := ⟨_, rfl⟩
  rw [← hN2] at s1
  have kN2 : Kp M N2 := by rw [hN2]; exact (kN.tr kN1).tr (Kp.row (by decide))
  have f38 : N2 38 = f := by rw [hN2, row_s]
  obtain ⟨x, hx⟩ : ∃ x, uO (mv_ M) C (M 14 0) (-1) n 0 (M 14 1) = some x := vO_some (fun p d => mv_0 M p d) C (M 14 0) (n - 0) 0 (M 14 1)
  have cf : X_X4_costFrom_36 0 (M 14 1) N2 = some (enc 1000000 (uO (mv_ M) C (M 14 0) (-1) n 0 (M 14 1)), N2) := by
    obtain ⟨x, x1, x2⟩ := c_from (M := N2) (k := 0) (by omega) (q := M 14 1) (by omega)
    obtain ⟨q, hq⟩ := Int.eq_ofNat_of_zero_le r1.1
    have := x2 q (by omega) hq
    rw [f38, s2 0 (by omega) (by omega) q (by omega), ← hq] at this
    rw [this] at x1; exact x1
  have c0 : X_X8_most_0 c n M = some (-x, N2) := by
    rw [X_X8_most_0, sp_isCrown M hc, b2_t h1, ob]
    dsimp +instances only
    rw [if_neg (by decide), sp_isPlan M hn, b2_t h2, ob]
    dsimp +instances only
    rw [if_neg (by decide), sp_hasNoLand I.g11, b2_f h3, ob]
    dsimp +instances only
    rw [if_pos wI_0, t1, ob]
    dsimp +instances only
    rw [← hN, s1, ob]
    dsimp +instances only
    rw [kN2.1 14 (by decide), cf, ob, hx]
    rfl
  have B : Ic N2 := Kc.ic I.b.c kN2.b.c
  have kk : Kp N2 (am_up (am_up N2 53 22 2) 53 23 c) := (Kp.up53 (by decide)).tr (Kp.up53 (by decide))
  have kt : Kc M (am_up (am_up N2 53 22 2) 53 23 c) := kN2.b.c.tr kk.b.c
  have P : MlI (am_up (am_up N2 53 22 2) 53 23 c) 2 c C := by
    refine ⟨Kc.ic B kk.b.c, by rw [up_j (by decide), up_s], up_s, ?_, hCr⟩
    intro M' g g1 g2 k p m hk hp hm hmv
    have B' : Ic M' := Kc.ic (Kc.ic B kk.b.c) g
    have kt' := kt.tr g
    rw [kt.1 11 (by decide)] at hp
    rw [kt.mv, kt.1 14 (by decide)] at hmv
    rw [kt.1 14 (by decide)]
    have hb := mv_in (M := M) hm hp hmv
    have e : dC_ M' c (p + m) = dC_ M c (p + m) := by unfold dC_; rw [kt'.du, kt'.1 11 (by decide)]
    rw [km_costM B' c01 g1 g2 (by omega) (by omega), e, hC]
    unfold cC
    rw [if_pos rfl, Int.zero_add]
  obtain ⟨g, v1, v2⟩ := sp_values P hn20 (goal := -1) (by decide)
  rw [kt.mv, kt.1 11 (by decide), kt.1 14 (by decide)] at v2
  obtain ⟨X, hX⟩ : ∃ X, X = am_row (am_up (am_up N2 53 22 2) 53 23 c) 64 g := ⟨_, rfl⟩
  rw [← hX] at v1
  have kX : Kp N2 X := by rw [hX]; exact kk.tr (Kp.row (by decide))
  have ktX : Kc M X := kN2.b.c.tr kX.b.c
  have x64 : X 64 = g := by rw [hX, row_s]
  have m0 : X_X9_most_53 c n N2 = some (-x, X) := by
    have e1 : X 54 1 = M 14 1 := by rw [ktX.2.2 1 (by decide), I.d1]
    have e53 : N2 53 1 = M 11 0 := by rw [kN2.2.1 1 (by decide), I.es]
    rw [X_X9_most_53, wI_R hc, sp_in N2 hc i0 i1, b2_t h1, ob]
    dsimp +instances only
    rw [if_neg (by decide), wI_R hn, sp_in N2 hn i0 i20, b2_t h2, ob]
    dsimp +instances only
    rw [if_neg (by decide), e53, wI_of (x := M 11 0) (by omega) (by omega), if_neg h3, v1, ob]
    dsimp +instances only
    rw [e1, wI_of (x := M 14 1) (by omega) (by omega), if_pos (by omega), x64, m_at v2 r1, hx]
    rfl
  exact st_kp I c0 kN2 m0 kX rfl
