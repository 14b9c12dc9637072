/-! The first of the best moves, and the row of them, on the class's side. -/
noncomputable def fmO (mv : Int → Int → Int → Int) (C : Nat → Int → Int → Int) (d : Int) (V : Int → Option Int) (k : Nat) (p : Int) (w : Option Int) : Int := if byO mv C d V k p (-1) = w then -1 else if byO mv C d V k p 0 = w then 0 else if byO mv C d V k p 1 = w then 1 else 0
noncomputable def fmU (mv : Int → Int → Int → Int) (C : Nat → Int → Int → Int) (d goal : Int) (n k : Nat) (p : Int) : Int := fmO mv C d (uO mv C d goal n (k + 1)) k p (uO mv C d goal n k p)
theorem fmU_m (mv : Int → Int → Int → Int) (C : Nat → Int → Int → Int) (d goal : Int) (n k : Nat) (p : Int) : mvs (fmU mv C d goal n k p) := by
  unfold fmU fmO mvs
  split
  · exact Or.inl rfl
  · split
    · exact Or.inr (Or.inl rfl)
    · split
      · exact Or.inr (Or.inr rfl)
      · exact Or.inr (Or.inl rfl)
theorem fmU_b {mv : Int → Int → Int → Int} {C : Nat → Int → Int → Int} {d goal : Int} {n k : Nat} (h : k < n) (p : Int) : byO mv C d (uO mv C d goal n (k + 1)) k p (fmU mv C d goal n k p) = uO mv C d goal n k p := by
  have h1 := stO_one (mv := mv) (C := C) (d := d) (V := uO mv C d goal n (k + 1)) (k := k) (p := p)
  rw [← uO_s h] at h1
  unfold fmU fmO
  by_cases c1 : byO mv C d (uO mv C d goal n (k + 1)) k p (-1) = uO mv C d goal n k p
  · rw [if_pos c1]; exact c1
  · rw [if_neg c1]
    by_cases c2 : byO mv C d (uO mv C d goal n (k + 1)) k p 0 = uO mv C d goal n k p
    · rw [if_pos c2]; exact c2
    · rw [if_neg c2]
      rcases h1 with h1 | h1 | h1
      · exact absurd h1 c1
      · exact absurd h1 c2
      · rw [if_pos h1]; exact h1
theorem fmU_s {mv : Int → Int → Int → Int} {C : Nat → Int → Int → Int} {d goal : Int} {n k : Nat} (h : k < n) {p x : Int} (hx : uO mv C d goal n k p = some x) : mv p (fmU mv C d goal n k p) (d + k) ≠ -1 ∧ ∃ y, uO mv C d goal n (k + 1) (p + fmU mv C d goal n k p) = some y := by
  have h1 := fmU_b (mv := mv) (C := C) (d := d) (goal := goal) h p
  rw [hx] at h1
  unfold byO at h1
  split at h1
  · cases h1
  · rename_i c
    refine ⟨c, ?_⟩
    cases hq : uO mv C d goal n (k + 1) (p + fmU mv C d goal n k p) with
    | none => rw [hq] at h1; cases h1
    | some y => exact ⟨y, rfl⟩
/-- the row of the first best moves from place p at day k on -/
noncomputable def ptO (mv : Int → Int → Int → Int) (C : Nat → Int → Int → Int) (d goal : Int) (n : Nat) : Nat → Nat → Int → Nat → Int
  | 0, _, _, _ => 0
  | e + 1, k, p, j => if j = k then fmU mv C d goal n k p else ptO mv C d goal n e (k + 1) (p + fmU mv C d goal n k p) j
theorem ptO_r (mv : Int → Int → Int → Int) (C : Nat → Int → Int → Int) (d goal : Int) (n : Nat) : ∀ (e k : Nat) (p : Int) (j : Nat), -1 ≤ ptO mv C d goal n e k p j ∧ ptO mv C d goal n e k p j ≤ 1
  | 0, _, _, _ => by unfold ptO; decide
  | e + 1, k, p, j => by
    unfold ptO
    split
    · have := fmU_m mv C d goal n k p
      unfold mvs at this
      omega
    · exact ptO_r mv C d goal n e (k + 1) _ j
theorem c_fm1 (k5 : am_M → am_Rs) {M : am_M} {br : Int} {D : Int → Int} (P : PlI M br D) {V : Int → Option Int} {k : Nat} (hk : k < 20) (hV : ∀ q : Nat, (q : Int) ≤ M 11 0 → M 38 (13 * (k + 1) + q) = enc 1000000 (V q)) (hO : ∀ q, okO (V q) 38000) {p m : Int} (hp : 0 ≤ p ∧ p ≤ M 11 0) (hm : m = -1 ∨ m = 0 ∨ m = 1) (n : Nat) {w : Option Int} (hw : okO w 40000) : XL_X4_firstMove_36_1 k5 (n + 1) k p (enc 1000000 w) m M = if byO (mv_ M) (cC br (mv_ M) D (M 14 0)) (M 14 0) V k p m = w then some (m, M) else XL_X4_firstMove_36_1 k5 n k p (enc 1000000 w) (m + 1) M := by
  have hb : okO (byO (mv_ M) (cC br (mv_ M) D (M 14 0)) (M 14 0) V k p m) 40000 := byO_ok hO P.2.2.2.2
  have e := c_costBy P (f := M 38) hk hV hO hp hm
  rw [row_self] at e
  rw [XL_X4_firstMove_36_1, XB_X4_firstMove_36_1, wI_of (x := m) (by omega) (by omega), if_neg (by omega), e, ob]
  dsimp +instances only
  rw [wIe hb, wIe hw]
  by_cases c : byO (mv_ M) (cC br (mv_ M) D (M 14 0)) (M 14 0) V k p m = w
  · rw [if_pos ((enc_inj hb hw (by decide)).mpr c), if_pos c]
  · rw [if_neg (fun h => c ((enc_inj hb hw (by decide)).mp h)), if_neg c]
theorem c_fm {M : am_M} {br : Int} {D : Int → Int} (P : PlI M br D) {V : Int → Option Int} {k : Nat} (hk : k < 20) (hV : ∀ q : Nat, (q : Int) ≤ M 11 0 → M 38 (13 * (k + 1) + q) = enc 1000000 (V q)) (hO : ∀ q, okO (V q) 38000) {p : Nat} (hp : (p : Int) ≤ M 11 0) {w : Option Int} (hw : okO w 40000) (hW : M 38 (13 * k + p) = enc 1000000 w) : X_X4_firstMove_36 k p M = some (fmO (mv_ M) (cC br (mv_ M) D (M 14 0)) (M 14 0) V k p w, M) := by
  have rs := P.1.rs
  obtain ⟨x, x1, x2⟩ := c_from (M := M) (k := k) (by omega) (q := (p : Int)) (by omega)
  have hx := x2 p (by omega) rfl
  rw [hW] at hx
  have hp2 : 0 ≤ (p : Int) ∧ (p : Int) ≤ M 11 0 := by omega
  have e1 : XL_X4_firstMove_36_1 XB_X4_firstMove_36_5 1000 k p (enc 1000000 w) (-1) M = _ := c_fm1 XB_X4_firstMove_36_5 P hk hV hO hp2 (m := -1) (Or.inl rfl) 999 hw
  have e2 : XL_X4_firstMove_36_1 XB_X4_firstMove_36_5 999 k p (enc 1000000 w) (-1 + 1) M = _ := c_fm1 XB_X4_firstMove_36_5 P hk hV hO hp2 (m := -1 + 1) (Or.inr (Or.inl rfl)) 998 hw
  have e3 : XL_X4_firstMove_36_1 XB_X4_firstMove_36_5 998 k p (enc 1000000 w) (-1 + 1 + 1) M = _ := c_fm1 XB_X4_firstMove_36_5 P hk hV hO hp2 (m := -1 + 1 + 1) (Or.inr (Or.inr rfl)) 997 hw
  rw [X_X4_firstMove_36, XB_X4_firstMove_36_e, x1, ob]
  dsimp only
  rw [hx, e1, e2, e3, XL_X4_firstMove_36_1, XB_X4_firstMove_36_1, if_pos (show 1 < wI (-1 + 1 + 1 + 1) by decide), XB_X4_firstMove_36_5]
  unfold fmO
  show (if byO _ _ _ V k p (-1) = w then _ else if byO _ _ _ V k p 0 = w then _ else if byO _ _ _ V k p 1 = w then _ else _) = _
  split
  · rfl
  · split
    · rfl
    · split <;> rfl
theorem PlI.k {M M' : am_M} {br : Int} {D : Int → Int} (P : PlI M br D) (h : Kc M M') (h36 : M' 36 = M 36) (h37 : M' 37 = M 37) : PlI M' br D := by
  have q11 := h.1 11 (by decide)
  have q12 := h.1 12 (by decide)
  have q14 := h.1 14 (by decide)
  have km : mv_ M' = mv_ M := by funext b m d; unfold mv_; rw [q11, q12]
  refine ⟨Kc.ic P.1 h, by rw [h36]; exact P.2.1, P.2.2.1, by rw [h37]; exact P.2.2.2.1, ?_⟩
  rw [km, q14]; exact P.2.2.2.2
theorem lp_plan (k3 : am_M → am_Rs) {M : am_M} {br : Int} {D : Int → Int} (P : PlI M br D) (hS : Sh1 M) {n : Nat} (hn : n ≤ 20) {goal : Int} (hT : Tb 1000000 (M 11 0) (uO (mv_ M) (cC br (mv_ M) D (M 14 0)) (M 14 0) goal n) n 0 (M 38)) {r : Nat} (hr : r < 6) (hsz : M 2 r = n) : ∀ (e n1 k : Nat) (p x : Int) (h : Nat → Int), k + e = n → e < n1 → (0 ≤ p ∧ p ≤ M 11 0) → uO (mv_ M) (cC br (mv_ M) D (M 14 0)) (M 14 0) goal n k p = some x → XL_X8_layPlan_0_1 k3 n1 n r p k (am_row M 3 h) = k3 (am_row M 3 fun j => if 40 * r + k ≤ j ∧ j < 40 * r + n then ptO (mv_ M) (cC br (mv_ M) D (M 14 0)) (M 14 0) goal n e k p (j - 40 * r) else h j) := by
  intro e
  induction e with
  | zero =>
    intro n1 k p x h hk hn1 hp hx
    obtain ⟨n1, rfl⟩ : ∃ m, n1 = m + 1 := ⟨n1 - 1, by omega⟩
    rw [XL_X8_layPlan_0_1, XB_X8_layPlan_0_1, wI_of (x := (k : Int)) (by omega) (by omega), wI_of (x := (n : Int)) (by omega) (by omega), if_neg (by omega)]
    refine congrArg (fun F => k3 (am_row M 3 F)) (funext fun j => ?_)
    rw [if_neg (by omega)]
  | succ e ih =>
    intro n1 k p x h hk hn1 hp hx
    have rs := P.1.rs
    obtain ⟨n1, rfl⟩ : ∃ m, n1 = m + 1 := ⟨n1 - 1, by omega⟩
    obtain ⟨q, rfl⟩ := Int.eq_ofNat_of_zero_le hp.1
    have hC := P.2.2.2.2
    have P' : PlI (am_row M 3 h) br D := P.k (Kc.row (by decide)) rfl rfl
    have fm : X_X4_firstMove_36 k q (am_row M 3 h) = some (fmU (mv_ M) (cC br (mv_ M) D (M 14 0)) (M 14 0) goal n k q, am_row M 3 h) := c_fm P' (V := uO (mv_ M) (cC br (mv_ M) D (M 14 0)) (M 14 0) goal n (k + 1)) (w := uO (mv_ M) (cC br (mv_ M) D (M 14 0)) (M 14 0) goal n k q) (by omega) (fun q hq => hT (k + 1) (by omega) (by omega) q hq) (fun q => uO_ok1 hn hC (by omega) q) (p := q) hp.2 (uO_ok hn hC k q) (hT k (by omega) (by omega) q hp.2)
    have hm := fmU_m (mv_ M) (cC br (mv_ M) D (M 14 0)) (M 14 0) goal n k q
    obtain ⟨hs1, y, hy⟩ := fmU_s (show k < n by omega) hx
    have hb := mv_in (M := M) hm hp hs1
    generalize hF : fmU (mv_ M) (cC br (mv_ M) D (M 14 0)) (M 14 0) goal n k q = F at fm hm hs1 hy hb
    have hS' : Sh1 (am_row M 3 h) := hS
    have st : X_X6_set_1 r k F (am_row M 3 h) = some (0, am_row M 3 fun j => if j = 40 * r + k then F else h j) := by
      rw [sp_set_1 hS' (by omega) (show 0 ≤ (k : Int) ∧ (k : Int) < M 2 (r : Int).toNat by rw [Int.toNat_natCast, hsz]; omega), show ((40 : Int) * r + k).toNat = 40 * r + k by omega, up_row, row_row, row_s]
    rw [XL_X8_layPlan_0_1, XB_X8_layPlan_0_1, wI_of (x := (k : Int)) (by omega) (by omega), wI_of (x := (n : Int)) (by omega) (by omega), if_pos (by omega), fm, ob]
    dsimp only
    rw [st, ob]
    dsimp only
    rw [← Int.natCast_succ, ih n1 (k + 1) ((q : Int) + F) y _ (by omega) (by omega) hb hy]
    refine congrArg (fun F => k3 (am_row M 3 F)) (funext fun j => ?_)
    by_cases c1 : j = 40 * r + k
    · subst c1
      rw [if_neg (by omega), if_pos rfl, if_pos (by omega), show 40 * r + k - 40 * r = k by omega, ptO, if_pos rfl, hF]
    · rw [if_neg c1]
      by_cases c2 : 40 * r + (k + 1) ≤ j ∧ j < 40 * r + n
      · rw [if_pos c2, if_pos (by omega), ptO, if_neg (by omega), hF]
      · rw [if_neg c2, if_neg (by omega)]
/-- the class's row of moves -/
theorem sp_plan {M : am_M} {br : Int} {D : Int → Int} (P : PlI M br D) (hS : Sh1 M) {n : Nat} (hn : n ≤ 20) {goal : Int} (hT : Tb 1000000 (M 11 0) (uO (mv_ M) (cC br (mv_ M) D (M 14 0)) (M 14 0) goal n) n 0 (M 38)) {r : Nat} (hr : r < 6) {x : Int} (hx : uO (mv_ M) (cC br (mv_ M) D (M 14 0)) (M 14 0) goal n 0 (M 14 1) = some x) : X_X8_layPlan_0 n r M = some (0, am_row (am_up M 2 r n) 3 fun j => if 40 * r ≤ j ∧ j < 40 * r + n then ptO (mv_ M) (cC br (mv_ M) D (M 14 0)) (M 14 0) goal n n 0 (M 14 1) (j - 40 * r) else M 3 j) := by
  have mk := sp_make_1 hS (r := (r : Int)) (n := (n : Int)) (by omega) (by omega)
  rw [Int.toNat_natCast] at mk
  obtain ⟨N, hN⟩ : ∃ N, N = am_up M 2 r (n : Int) := ⟨_, rfl⟩
  rw [← hN] at mk
  have PN : PlI N br D := by rw [hN]; exact P.k (Kc.up (by decide)) rfl rfl
  have f : ∀ c, c ≠ 2 → N c = M c := fun c h => by rw [hN, up_a h]
  have km : mv_ N = mv_ M := by funext b m d; unfold mv_; rw [f 11 (by decide), f 12 (by decide)]
  have hS' : Sh1 N := by
    refine ⟨by rw [f 1 (by decide)]; exact hS.1, by rw [f 1 (by decide)]; exact hS.2.1, by rw [f 1 (by decide)]; exact hS.2.2.1, fun q => ?_⟩
    rw [hN]
    by_cases c : q = r
    · subst c; rw [up_s]; omega
    · rw [up_j c]; exact hS.2.2.2 q
  have l := lp_plan XB_X8_layPlan_0_3 PN hS' hn (goal := goal) (r := r) (by rw [km, f 11 (by decide), f 14 (by decide), f 38 (by decide)]; exact hT) hr (by rw [hN, up_s]) n 1000 0 (M 14 1) x (fun j => if 40 * (r : Int) ≤ (j : Int) ∧ (j : Int) < 40 * (r : Int) + n then 0 else M 3 j) (by omega) (by omega) (by rw [f 11 (by decide)]; exact P.1.r1) (by rw [km, f 14 (by decide)]; exact hx)
  rw [km, f 14 (by decide), show ((0 : Nat) : Int) = 0 from rfl] at l
  rw [X_X8_layPlan_0, XB_X8_layPlan_0_e, mk, ob]
  dsimp only
  rw [row_a (by decide), f 14 (by decide), l, XB_X8_layPlan_0_3, ← hN]
  refine congrArg (fun F => some ((0 : Int), am_row N 3 F)) (funext fun j => ?_)
  by_cases c : 40 * r ≤ j ∧ j < 40 * r + n
  · rw [if_pos c, if_pos (by omega)]
  · rw [if_neg c, if_neg (by omega), if_neg (by omega)]
