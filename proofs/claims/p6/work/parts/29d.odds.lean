/-! Chances in lowest terms. -/
noncomputable def rd_ : Nat → Nat → Nat × Nat
  | 0, u => (u, 1)
  | m + 1, u => if u % 2 = 0 then rd_ m (u / 2) else (u, 2 ^ (m + 1))
theorem gcd_odd {u : Nat} (h : u % 2 = 1) (m : Nat) : Nat.gcd u (2 ^ m) = 1 := by
  have h1 : Nat.Coprime u 2 := by
    show Nat.gcd u 2 = 1
    rw [Nat.gcd_comm, Nat.gcd_rec, h]
    rfl
  exact h1.pow_right m
theorem rd_g : ∀ (m u : Nat), rd_ m u = (u / Nat.gcd u (2 ^ m), 2 ^ m / Nat.gcd u (2 ^ m))
  | 0, u => by
    show (u, 1) = (u / Nat.gcd u 1, 1 / Nat.gcd u 1)
    rw [Nat.gcd_one_right, Nat.div_one]
  | m + 1, u => by
    rw [rd_]
    by_cases c : u % 2 = 0
    · obtain ⟨v, rfl⟩ : ∃ v, u = 2 * v := ⟨u / 2, by omega⟩
      have hg : Nat.gcd (2 * v) (2 ^ (m + 1)) = 2 * Nat.gcd v (2 ^ m) := by
        rw [Nat.pow_succ, Nat.mul_comm (2 ^ m) 2, Nat.gcd_mul_left]
      rw [if_pos c, show 2 * v / 2 = v by omega, rd_g m v, hg, Nat.mul_div_mul_left _ _ (by decide), Nat.pow_succ, Nat.mul_comm (2 ^ m) 2, Nat.mul_div_mul_left _ _ (by decide)]
    · rw [if_neg c, gcd_odd (by omega), Nat.div_one, Nat.div_one]
theorem cUl_up (N : am_M) (u l u' l' : Int) : am_up (am_up (cUl u l N) 0 14 u') 0 15 l' = cUl u' l' N := by
  funext c
  unfold cUl
  by_cases hc : c = 0
  · subst hc
    funext j
    by_cases h15 : j = 15
    · subst h15; rw [up_s, up_s]
    · rw [up_j h15, up_j h15]
      by_cases h14 : j = 14
      · subst h14; rw [up_s, up_s]
      · rw [up_j h14, up_j h14, up_j h15, up_j h14]
  · rw [up_a hc, up_a hc, up_a hc, up_a hc, up_a hc, up_a hc]
theorem p2 : ∀ m, m ≤ 24 → 2 ^ m ≤ 16777216 := by
  have : ∀ m : Fin 25, 2 ^ m.val ≤ 16777216 := by decide
  intro m hm
  exact this ⟨m, by omega⟩
theorem lp_tellC (k4 : am_M → am_Rs) (N : am_M) : ∀ (m n u : Nat), m ≤ 24 → u < 4611686018427387904 → m < n → XL_X8_tellChance_0_1 k4 n (cUl (u : Int) ((2 ^ m : Nat) : Int) N) = k4 (cUl ((rd_ m u).1 : Int) ((rd_ m u).2 : Int) N) := by
  intro m
  induction m with
  | zero =>
    intro n u hm hu hn
    obtain ⟨n, rfl⟩ : ∃ q, n = q + 1 := ⟨n - 1, by omega⟩
    have e15 : (cUl (u : Int) ((2 ^ 0 : Nat) : Int) N) 0 15 = 1 := by unfold cUl; rw [up_s]; rfl
    rw [XL_X8_tellChance_0_1, XB_X8_tellChance_0_1, e15, if_neg (by decide)]
    rfl
  | succ m ih =>
    intro n u hm hu hn
    obtain ⟨n, rfl⟩ : ∃ q, n = q + 1 := ⟨n - 1, by omega⟩
    have hp := p2 (m + 1) hm
    have hp1 : 0 < 2 ^ m := Nat.two_pow_pos m
    have e2 : 2 ^ (m + 1) = 2 * 2 ^ m := by rw [Nat.pow_succ, Nat.mul_comm]
    obtain ⟨l, hl⟩ : ∃ l, l = 2 ^ m := ⟨_, rfl⟩
    rw [← hl] at e2 hp1
    rw [e2] at hp
    have e15 : (cUl (u : Int) ((2 ^ (m + 1) : Nat) : Int) N) 0 15 = ((2 * l : Nat) : Int) := by unfold cUl; rw [up_s, e2]
    have e14 : (cUl (u : Int) ((2 ^ (m + 1) : Nat) : Int) N) 0 14 = (u : Int) := by unfold cUl; rw [up_j (by decide), up_s]
    have c1 : 0 < wI (c_lcmp ((2 * l : Nat) : Int) 1) := by
      rw [lc_gt, wL_of (x := ((2 * l : Nat) : Int)) (by omega) (by omega), show wL 1 = 1 from rfl]; omega
    have c2 : wI (c_lcmp ((wL (u : Int)).tmod 2) 0) = 0 ↔ u % 2 = 0 := by
      rw [lc_eq, wL_of (x := (u : Int)) (by omega) (by omega), Int.tmod_eq_emod_of_nonneg (by omega), wL_of (by omega) (by omega), show wL 0 = 0 from rfl]; omega
    rw [XL_X8_tellChance_0_1, XB_X8_tellChance_0_1, e15, e14, if_pos c1, rd_]
    by_cases c : u % 2 = 0
    · have d1 : (wL (u : Int)).tdiv 2 = ((u / 2 : Nat) : Int) := by rw [wL_of (by omega) (by omega), Int.tdiv_eq_ediv_of_nonneg (by omega)]; omega
      have d2 : ∀ x : Int, (am_up (cUl (u : Int) ((2 ^ (m + 1) : Nat) : Int) N) 0 14 x) 0 15 = ((2 * l : Nat) : Int) := fun x => by rw [up_j (by decide), e15]
      have d3 : (wL ((2 * l : Nat) : Int)).tdiv 2 = ((l : Nat) : Int) := by rw [wL_of (by omega) (by omega), Int.tdiv_eq_ediv_of_nonneg (by omega)]; omega
      rw [if_pos (c2.mpr c), if_pos c, d1, d2, d3, cUl_up, hl]
      exact ih n (u / 2) (by omega) (by omega) (by omega)
    · rw [if_neg (fun h => c (c2.mp h)), if_neg c]
theorem sp_tellC (N : am_M) {m u : Nat} (hm : m ≤ 24) (hu : u < 4611686018427387904) : X_X8_tellChance_0 (u : Int) ((2 ^ m : Nat) : Int) N = some (1, cUl ((rd_ m u).1 : Int) ((rd_ m u).2 : Int) N) := by
  rw [X_X8_tellChance_0, XB_X8_tellChance_0_e]
  have := lp_tellC XB_X8_tellChance_0_4 N m 1000 u hm hu (by omega)
  exact this
theorem lp_gcd (k3 : Int → Int → Int → am_M → am_Rs) (N : am_M) (v1 v3 : Int) : ∀ (k n x y : Nat), y < 2 ^ k → x < 4611686018427387904 → k ≤ 40 → 2 * k < n → XL_X9_tellParts_53_1 k3 n v1 v3 (x : Int) (y : Int) N = k3 v1 v3 (Nat.gcd x y : Int) N := by
  have P : ∀ k, k ≤ 40 → 2 ^ k ≤ 1099511627776 := by
    have : ∀ m : Fin 41, 2 ^ m.val ≤ 1099511627776 := by decide
    intro m hm
    exact this ⟨m, by omega⟩
  have st : ∀ (n x y : Nat), x < 4611686018427387904 → y < 1099511627777 → XL_X9_tellParts_53_1 k3 (n + 1) v1 v3 (x : Int) (y : Int) N = if y = 0 then k3 v1 v3 (x : Int) N else XL_X9_tellParts_53_1 k3 n v1 v3 (y : Int) ((x % y : Nat) : Int) N := by
    intro n x y hx hy
    have c2 : wI (c_lcmp (y : Int) 0) = 0 ↔ y = 0 := by
      rw [lc_eq, wL_of (x := (y : Int)) (by omega) (by omega), show wL 0 = 0 from rfl]; omega
    rw [XL_X9_tellParts_53_1, XB_X9_tellParts_53_1]
    by_cases c : y = 0
    · rw [if_pos (c2.mpr c), if_pos c]
    · rw [if_neg (fun h => c (c2.mp h)), if_neg c, wL_of (x := (y : Int)) (by omega) (by omega), wL_of (x := (x : Int)) (by omega) (by omega), if_pos (by omega), Int.tmod_eq_emod_of_nonneg (by omega), ← Int.natCast_emod]
  intro k
  induction k with
  | zero =>
    intro n x y hy hx hk hn
    obtain ⟨n, rfl⟩ : ∃ q, n = q + 1 := ⟨n - 1, by omega⟩
    have : y = 0 := by have h : y < 1 := hy; omega
    subst this
    rw [st n x 0 hx (by omega), if_pos rfl, Nat.gcd_zero_right]
  | succ k ih =>
    intro n x y hy hx hk hn
    obtain ⟨n, rfl⟩ : ∃ q, n = q + 2 := ⟨n - 2, by omega⟩
    have hp := P (k + 1) hk
    have e2 : 2 ^ (k + 1) = 2 * 2 ^ k := by rw [Nat.pow_succ, Nat.mul_comm]
    rw [st (n + 1) x y hx (by omega)]
    by_cases c : y = 0
    · subst c; rw [if_pos rfl, Nat.gcd_zero_right]
    · rw [if_neg c]
      have hr : x % y < y := Nat.mod_lt x (by omega)
      rw [st n y (x % y) (by omega) (by omega)]
      have g1 : Nat.gcd x y = Nat.gcd y (x % y) := by rw [Nat.gcd_comm x y, Nat.gcd_rec y x, Nat.gcd_comm]
      by_cases c2 : x % y = 0
      · rw [if_pos c2, g1, c2, Nat.gcd_zero_right]
      · rw [if_neg c2]
        have hr2 : y % (x % y) < x % y := Nat.mod_lt y (by omega)
        have hr3 : y % (x % y) ≤ y - x % y := by
          have h1 := Nat.mod_add_div y (x % y)
          have h2 : 1 ≤ y / (x % y) := (Nat.one_le_div_iff (by omega)).mpr (by omega)
          have h3 : x % y * 1 ≤ x % y * (y / (x % y)) := Nat.mul_le_mul_left _ h2
          rw [Nat.mul_one] at h3
          omega
        have g2 : Nat.gcd y (x % y) = Nat.gcd (x % y) (y % (x % y)) := by rw [Nat.gcd_comm y (x % y), Nat.gcd_rec (x % y) y, Nat.gcd_comm]
        rw [ih n (x % y) (y % (x % y)) (by omega) (by omega) (by omega) (by omega), g1, g2]
theorem sp_parts (N : am_M) {m u : Nat} (hm : m ≤ 24) (hu : u < 4611686018427387904) : X_X9_tellParts_53 (u : Int) ((2 ^ m : Nat) : Int) N = some (1, mUl ((rd_ m u).1 : Int) ((rd_ m u).2 : Int) N) := by
  have hp := p2 m hm
  have hpos := Nat.two_pow_pos m
  rw [X_X9_tellParts_53, XB_X9_tellParts_53_e, lp_gcd XB_X9_tellParts_53_3 N _ _ 25 1000 u (2 ^ m) (by omega) hu (by omega) (by omega), XB_X9_tellParts_53_3, rd_g]
  obtain ⟨L, hL⟩ : ∃ L, L = 2 ^ m := ⟨_, rfl⟩
  rw [← hL] at hp hpos ⊢
  have g0 : 0 < Nat.gcd u L := Nat.gcd_pos_of_pos_right u hpos
  have g1 : Nat.gcd u L ≤ L := Nat.gcd_le_right u hpos
  obtain ⟨g, hg⟩ : ∃ g, g = Nat.gcd u L := ⟨_, rfl⟩
  rw [← hg] at g0 g1 ⊢
  rw [wL_of (x := (g : Int)) (by omega) (by omega), if_pos (by omega), if_pos (by omega), wL_of (x := (u : Int)) (by omega) (by omega), wL_of (x := (L : Int)) (by omega) (by omega), Int.tdiv_eq_ediv_of_nonneg (by omega), Int.tdiv_eq_ediv_of_nonneg (by omega), ← Int.natCast_ediv, ← Int.natCast_ediv]
  rfl
theorem p16 (n : Nat) : (16 : Int) ^ n = ((2 ^ (4 * n) : Nat) : Int) := by
  rw [Nat.pow_mul]
  push_cast
  rfl
theorem lp_pin (k3 : Int → am_M → am_Rs) (N : am_M) {v : Nat} (hv : v ≤ 6) : ∀ (e n k : Nat), k + e = v → e < n → XL_X0_pairsIn_1 k3 n v ((16 : Int) ^ k) k N = k3 ((16 : Int) ^ v) N := by
  intro e
  induction e with
  | zero =>
    intro n k hk hn
    obtain ⟨n, rfl⟩ : ∃ q, n = q + 1 := ⟨n - 1, by omega⟩
    rw [XL_X0_pairsIn_1, XB_X0_pairsIn_1, wI_of (x := (k : Int)) (by omega) (by omega), wI_of (x := (v : Int)) (by omega) (by omega), if_neg (by omega), show k = v by omega]
  | succ e ih =>
    intro n k hk hn
    obtain ⟨n, rfl⟩ : ∃ q, n = q + 1 := ⟨n - 1, by omega⟩
    rw [XL_X0_pairsIn_1, XB_X0_pairsIn_1, wI_of (x := (k : Int)) (by omega) (by omega), wI_of (x := (v : Int)) (by omega) (by omega), if_pos (by omega), ← Int.natCast_succ, ← Int.pow_succ]
    exact ih n (k + 1) (by omega) (by omega)
theorem sp_pin (N : am_M) {v : Nat} (hv : v ≤ 6) : X_X0_pairsIn v N = some (((2 ^ (4 * v) : Nat) : Int), N) := by
  have := lp_pin XB_X0_pairsIn_3 N hv v 1000 0 (by omega) (by omega)
  rw [X_X0_pairsIn, XB_X0_pairsIn_e, ← p16]
  exact this
theorem sp_six (N : am_M) {v : Nat} (hv : v ≤ 6) : X_X9_sixteen v N = some (((2 ^ (4 * v) : Nat) : Int), N) := by
  have h : ∀ m : Fin 7, b_lshl_ 1 (4 * ((m.val : Nat) : Int)) = ((2 ^ (4 * m.val) : Nat) : Int) := by decide +kernel
  rw [X_X9_sixteen, h ⟨v, by omega⟩]
theorem fv_k {M N : am_M} (k : Kc M N) (stop : Int) : ∀ n, fv N stop n = fv M stop n
  | 0 => by funext q; unfold fv; rw [k.1 14 (by decide)]
  | n + 1 => by
    funext q
    unfold fv
    rw [fv_k k stop n, k.1 14 (by decide), k.1 11 (by decide), nxv_k k.mv]
theorem pv_k {M N : am_M} (k : Kc M N) (D : Int → Int) : ∀ n, pv N D n = pv M D n
  | 0 => rfl
  | n + 1 => by
    unfold pv
    rw [pv_k k D n, fv_k k, k.1 14 (by decide), k.1 11 (by decide)]
theorem p208 : ∀ m, m ≤ 6 → (208 : Int) ^ m ≤ 80980417183744 := by
  have : ∀ m : Fin 7, (208 : Int) ^ m.val ≤ 80980417183744 := by decide
  intro m hm
  exact this ⟨m, by omega⟩
theorem fv_n {M : am_M} (I : Ic M) (stop : Int) {n q : Nat} (hn : n ≤ 6) (hq : q < 13) : ∃ u : Nat, fv M stop n q = u ∧ u < 4611686018427387904 := by
  have h := fv_r I stop n q hq
  have hp := p208 n hn
  obtain ⟨u, hu⟩ := Int.eq_ofNat_of_zero_le h.1
  exact ⟨u, hu, by omega⟩
theorem eq_odds {M : am_M} (I : Inv M) {p n : Int} (hp : iR p) (hn : iR n) : Step (X_X8_odds_0 p n) (X_X9_odds_53 p n) M := gd_odds I hp hn fun h1 h2 h3 => by
  obtain ⟨t, rfl⟩ := Int.eq_ofNat_of_zero_le h1.1
  obtain ⟨n, rfl⟩ := Int.eq_ofNat_of_zero_le h2.1
  have rs := I.rs
  obtain ⟨N1, a1, a2⟩ := sp_ending I.b.c (t := t) (by omega) (n := n) (by omega)
  obtain ⟨u, hu, hu2⟩ := fv_n I.b.c (-1) (n := n) (q := t) (by omega) (by omega)
  rw [hu] at a1
  obtain ⟨x, hx⟩ : ∃ x : Int, x = ((rd_ (4 * n) u).1 : Int) := ⟨_, rfl⟩
  obtain ⟨y, hy⟩ : ∃ y : Int, y = ((rd_ (4 * n) u).2 : Int) := ⟨_, rfl⟩
  have c0 : X_X8_odds_0 t n M = some (1, cUl x y N1) := by
    rw [X_X8_odds_0, sp_isPlace_11 I.g11 hp, b2_t h1, ob]
    dsimp +instances only
    rw [if_neg (by decide), sp_isChance M hn, b2_t h2, ob]
    dsimp +instances only
    rw [if_neg (by decide), sp_hasNoLand I.g11, b2_f h3, ob]
    dsimp +instances only
    rw [if_pos wI_0, a1, ob]
    dsimp only
    rw [sp_pin N1 (by omega), ob]
    dsimp only
    rw [sp_tellC N1 (by omega) hu2, ob, hx, hy]
  have kc : Kc M (cUl x y N1) := a2.b.c.tr (Kb.cu x y N1).c
  have e53 : (cUl x y N1) 53 1 = M 11 0 := by rw [kc.2.1, I.es]
  obtain ⟨a, b, P, g1, g2, -⟩ := sp_chances (Kc.ic I.b.c kc) (stop := -1) (strip := -1) (by decide) (Or.inl rfl) (fun _ => rfl) (n := n) (by omega)
  have e1 : a t = (u : Int) := by rw [g2 t (by omega), fv_k kc, hu]
  have m0 : X_X9_odds_53 t n (cUl x y N1) = some (1, mUl x y (mem3 (cUl x y N1) a b P)) := by
    rw [X_X9_odds_53, sp_isPlace (by rw [e53]; exact rs) hp, e53, b2_t h1, ob]
    dsimp +instances only
    rw [if_neg (by decide), wI_R hn, sp_in _ hn i0 i6, b2_t h2, ob]
    dsimp +instances only
    rw [if_neg (by decide), e53, wI_of (x := M 11 0) (by omega) (by omega), if_neg h3, g1, ob]
    dsimp +instances only
    rw [wI_of (x := (t : Int)) (by omega) (by omega), if_pos (by omega), sp_six _ (by omega), ob]
    dsimp only
    rw [m3_66, Int.toNat_natCast, e1, sp_parts _ (by omega) hu2, ob, hx, hy]
  exact st_told I c0 a2 m0 (m3_K _ _ _ _)
theorem eq_met {M : am_M} (I : Inv M) {p n : Int} (hp : iR p) (hn : iR n) : Step (X_X8_met_0 p n) (X_X9_met_53 p n) M := gd_met I hp hn fun h1 h2 h3 => by
  obtain ⟨t, rfl⟩ := Int.eq_ofNat_of_zero_le h1.1
  obtain ⟨n, rfl⟩ := Int.eq_ofNat_of_zero_le h2.1
  have rs := I.rs
  obtain ⟨N1, a1, a2⟩ := sp_meeting I.b.c (t := t) (by omega) (n := n) (by omega)
  obtain ⟨u, hu, hu2⟩ := fv_n I.b.c t (n := n) (q := t) (by omega) (by omega)
  rw [hu] at a1
  obtain ⟨x, hx⟩ : ∃ x : Int, x = ((rd_ (4 * n) u).1 : Int) := ⟨_, rfl⟩
  obtain ⟨y, hy⟩ : ∃ y : Int, y = ((rd_ (4 * n) u).2 : Int) := ⟨_, rfl⟩
  have c0 : X_X8_met_0 t n M = some (1, cUl x y N1) := by
    rw [X_X8_met_0, sp_isPlace_11 I.g11 hp, b2_t h1, ob]
    dsimp +instances only
    rw [if_neg (by decide), sp_isChance M hn, b2_t h2, ob]
    dsimp +instances only
    rw [if_neg (by decide), sp_hasNoLand I.g11, b2_f h3, ob]
    dsimp +instances only
    rw [if_pos wI_0, a1, ob]
    dsimp only
    rw [sp_pin N1 (by omega), ob]
    dsimp only
    rw [sp_tellC N1 (by omega) hu2, ob, hx, hy]
  have kc : Kc M (cUl x y N1) := a2.b.c.tr (Kb.cu x y N1).c
  have e53 : (cUl x y N1) 53 1 = M 11 0 := by rw [kc.2.1, I.es]
  obtain ⟨a, b, P, g1, g2, -⟩ := sp_chances (Kc.ic I.b.c kc) (stop := t) (strip := -1) (by omega) (Or.inl rfl) (fun h => absurd h (by decide)) (n := n) (by omega)
  have e1 : a t = (u : Int) := by rw [g2 t (by omega), fv_k kc, hu]
  have m0 : X_X9_met_53 t n (cUl x y N1) = some (1, mUl x y (mem3 (cUl x y N1) a b P)) := by
    rw [X_X9_met_53, sp_isPlace (by rw [e53]; exact rs) hp, e53, b2_t h1, ob]
    dsimp +instances only
    rw [if_neg (by decide), wI_R hn, sp_in _ hn i0 i6, b2_t h2, ob]
    dsimp +instances only
    rw [if_neg (by decide), e53, wI_of (x := M 11 0) (by omega) (by omega), if_neg h3, g1, ob]
    dsimp +instances only
    rw [wI_of (x := (t : Int)) (by omega) (by omega), if_pos (by omega), sp_six _ (by omega), ob]
    dsimp only
    rw [m3_66, Int.toNat_natCast, e1, sp_parts _ (by omega) hu2, ob, hx, hy]
  exact st_told I c0 a2 m0 (m3_K _ _ _ _)
theorem pv_r {M : am_M} (I : Ib M) (i : Int) : ∀ n, 0 ≤ pv M (db_ M i) n ∧ pv M (db_ M i) n ≤ 5000 * 208 ^ n
  | 0 => by unfold pv; decide
  | n + 1 => by
    have h := pv_r I i n
    have rs := I.rs
    have hp : (0 : Int) ≤ 208 ^ (n + 1) := by have := fv_r I.c (-1) (n + 1) 0 (by omega); omega
    have hd : 0 ≤ dot (M 11 0) (fv M (-1) (n + 1)) (tx (M 14 0 + n) (db_ M i)) ∧ dot (M 11 0) (fv M (-1) (n + 1)) (tx (M 14 0 + n) (db_ M i)) ≤ 324 * 208 ^ (n + 1) * 13 := by
      unfold dot
      have key : ∀ (d i0 : Nat), i0 + d ≤ 13 → 0 ≤ sf (fun q => fv M (-1) (n + 1) q * tx (M 14 0 + n) (db_ M i) q) i0 d ∧ sf (fun q => fv M (-1) (n + 1) q * tx (M 14 0 + n) (db_ M i) q) i0 d ≤ 324 * 208 ^ (n + 1) * d := by
        intro d
        induction d with
        | zero => intro i0 _; simp [sf]
        | succ d ih =>
          intro i0 hi0
          have h1 := ih (i0 + 1) (by omega)
          have h2 := fv_r I.c (-1) (n + 1) i0 (by omega)
          have h3 : 0 ≤ tx (M 14 0 + n) (db_ M i) i0 ∧ tx (M 14 0 + n) (db_ M i) i0 ≤ 324 := by
            have := db_r I i i0
            unfold tx
            split <;> omega
          have h4 : 0 ≤ fv M (-1) (n + 1) i0 * tx (M 14 0 + n) (db_ M i) i0 := Int.mul_nonneg h2.1 h3.1
          have h5 : fv M (-1) (n + 1) i0 * tx (M 14 0 + n) (db_ M i) i0 ≤ 208 ^ (n + 1) * 324 := Int.le_trans (Int.mul_le_mul_of_nonneg_right h2.2 h3.1) (Int.mul_le_mul_of_nonneg_left h3.2 hp)
          simp only [sf]
          rw [Int.natCast_succ, Int.mul_add, Int.mul_one]
          rw [Int.mul_comm (208 ^ (n + 1)) 324] at h5
          omega
      have h0 := key (M 11 0 + 1).toNat 0 (by omega)
      refine ⟨h0.1, Int.le_trans h0.2 (Int.mul_le_mul_of_nonneg_left (by omega) (by omega))⟩
    unfold pv
    have e : (208 : Int) ^ (n + 1) = 208 ^ n * 208 := Int.pow_succ 208 n
    generalize dot (M 11 0) (fv M (-1) (n + 1)) (tx (M 14 0 + n) (db_ M i)) = X at hd ⊢
    generalize pv M (db_ M i) n = Y at h ⊢
    rw [e] at hd hp ⊢
    generalize (208 : Int) ^ n = T at h hd hp ⊢
    omega
theorem eq_hedge {M : am_M} (I : Inv M) {i n : Int} (hi : iR i) (hn : iR n) : Step (X_X8_hedge_0 i n) (X_X9_hedge_53 i n) M := gd_hedge I hi hn fun h1 h2 => by
  obtain ⟨n, rfl⟩ := Int.eq_ofNat_of_zero_le h2.1
  have rs := I.rs
  obtain ⟨N1, a1, a2⟩ := sp_duesOf I.b.c h1 (n := n) (by omega)
  obtain ⟨u, hu, hu2⟩ : ∃ u : Nat, pv M (db_ M i) n = u ∧ u < 4611686018427387904 := by
    have h := pv_r I.b i n
    have hp := p208 n (by omega)
    obtain ⟨u, hu⟩ := Int.eq_ofNat_of_zero_le h.1
    exact ⟨u, hu, by omega⟩
  rw [hu] at a1
  obtain ⟨x, hx⟩ : ∃ x : Int, x = ((rd_ (4 * n) u).1 : Int) := ⟨_, rfl⟩
  obtain ⟨y, hy⟩ : ∃ y : Int, y = ((rd_ (4 * n) u).2 : Int) := ⟨_, rfl⟩
  have c0 : X_X8_hedge_0 i n M = some (1, cUl x y N1) := by
    rw [X_X8_hedge_0, sp_has_11 I.g11 hi, b2_t h1, ob]
    dsimp +instances only
    rw [if_neg (by decide), sp_isChance M hn, b2_t h2, ob]
    dsimp +instances only
    rw [if_neg (by decide), a1, ob]
    dsimp only
    rw [sp_pin N1 (by omega), ob]
    dsimp only
    rw [sp_tellC N1 (by omega) hu2, ob, hx, hy]
  have kc : Kc M (cUl x y N1) := a2.b.c.tr (Kb.cu x y N1).c
  have e53 : (cUl x y N1) 53 1 = M 11 0 := by rw [kc.2.1, I.es]
  obtain ⟨a, b, P, g1, -, g3⟩ := sp_chances (Kc.ic I.b.c kc) (stop := -1) (strip := i) (by decide) (Or.inr (by rw [kc.1 11 (by decide)]; exact h1)) (fun _ => rfl) (n := n) (by omega)
  have e1 : P = (u : Int) := by rw [g3 h1.1, kc.db, pv_k kc, hu]
  have m0 : X_X9_hedge_53 i n (cUl x y N1) = some (1, mUl x y (mem3 (cUl x y N1) a b P)) := by
    rw [X_X9_hedge_53, sp_isStrip (by rw [e53]; exact rs) hi, e53, b2_t h1, ob]
    dsimp +instances only
    rw [if_neg (by decide), wI_R hn, sp_in _ hn i0 i6, b2_t h2, ob]
    dsimp +instances only
    rw [if_neg (by decide), g1, ob]
    dsimp +instances only
    rw [sp_six _ (by omega), ob]
    dsimp only
    rw [m3_27, e1, sp_parts _ (by omega) hu2, ob, hx, hy]
  exact st_told I c0 a2 m0 (m3_K _ _ _ _)
