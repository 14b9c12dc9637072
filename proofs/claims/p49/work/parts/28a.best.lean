section
/-! The best of moves to come: a table that both sides lay. -/
noncomputable def enc (F : Int) : Option Int → Int
  | none => F
  | some x => x
noncomputable def omin : Option Int → Option Int → Option Int
  | none, b => b
  | some x, none => some x
  | some x, some y => if y < x then some y else some x
noncomputable def oadd : Option Int → Int → Option Int
  | none, _ => none
  | some x, c => some (x + c)
noncomputable def okO (v : Option Int) (b : Int) : Prop := ∀ x, v = some x → -b ≤ x ∧ x ≤ b
theorem okO.n (b : Int) : okO none b := fun _ h => by cases h
theorem okO.le {v : Option Int} {b c : Int} (h : okO v b) (hc : b ≤ c) : okO v c := fun x hx => by have := h x hx; omega
theorem okO.min {v w : Option Int} {b : Int} (h : okO v b) (g : okO w b) : okO (omin v w) b := by
  intro x hx
  cases v with
  | none => exact g x hx
  | some y =>
    cases w with
    | none => exact h x hx
    | some z =>
      change (if z < y then some z else some y) = some x at hx
      split at hx
      · exact g x hx
      · exact h x hx
theorem okO.add {v : Option Int} {b c e : Int} (h : okO v b) (hc : -e ≤ c ∧ c ≤ e) : okO (oadd v c) (b + e) := by
  intro x hx
  cases v with
  | none => cases hx
  | some y =>
    have := h y rfl
    cases hx
    omega
theorem enc_r {F b : Int} {v : Option Int} (h : okO v b) (hb : 0 ≤ b ∧ b ≤ F) : -b ≤ enc F v ∧ enc F v ≤ F := by
  cases v with
  | none => show -b ≤ F ∧ F ≤ F; omega
  | some x => have := h x rfl; show -b ≤ x ∧ x ≤ F; omega
theorem wIe {v : Option Int} (h : okO v 40000) : wI (enc 1000000 v) = enc 1000000 v := by
  have := enc_r h (F := 1000000) (by decide)
  generalize enc 1000000 v = x at this ⊢
  exact wI_of (by omega) (by omega)
theorem wIm {v : Option Int} (h : okO v 40000) : wI (enc 1048576 v) = enc 1048576 v := by
  have := enc_r h (F := 1048576) (by decide)
  generalize enc 1048576 v = x at this ⊢
  exact wI_of (by omega) (by omega)
theorem enc_min {F b : Int} {v w : Option Int} (h : okO v b) (g : okO w b) (hb : b < F) : (if enc F w < enc F v then enc F w else enc F v) = enc F (omin v w) := by
  cases v with
  | none =>
    show (if enc F w < F then enc F w else F) = enc F w
    cases w with
    | none => show (if F < F then F else F) = F; split <;> rfl
    | some y =>
      have := g y rfl
      show (if y < F then y else F) = y
      rw [if_pos (by omega)]
  | some x =>
    have := h x rfl
    cases w with
    | none => show (if F < x then F else x) = x; rw [if_neg (by omega)]
    | some y =>
      show (if y < x then y else x) = enc F (if y < x then some y else some x)
      split <;> rfl
theorem enc_inj {F b : Int} {v w : Option Int} (h : okO v b) (g : okO w b) (hb : b < F) : enc F v = enc F w ↔ v = w := by
  constructor
  · intro e
    cases v with
    | none =>
      cases w with
      | none => rfl
      | some y => have := g y rfl; have e : F = y := e; omega
    | some x =>
      have := h x rfl
      cases w with
      | none => have e : x = F := e; omega
      | some y => have e : x = y := e; rw [e]
  · intro e; rw [e]
/-- by a move: what lies behind it, and what it costs -/
noncomputable def byO (mv : Int → Int → Int → Int) (C : Nat → Int → Int → Int) (d : Int) (V : Int → Option Int) (k : Nat) (p m : Int) : Option Int := if mv p m (d + k) = -1 then none else oadd (V (p + m)) (C k p m)
noncomputable def stO (mv : Int → Int → Int → Int) (C : Nat → Int → Int → Int) (d : Int) (V : Int → Option Int) (k : Nat) (p : Int) : Option Int := omin (omin (omin none (byO mv C d V k p (-1))) (byO mv C d V k p 0)) (byO mv C d V k p 1)
noncomputable def vO (mv : Int → Int → Int → Int) (C : Nat → Int → Int → Int) (d : Int) (g : Int → Option Int) : Nat → Nat → Int → Option Int
  | 0, _, p => g p
  | e + 1, k, p => stO mv C d (vO mv C d g e (k + 1)) k p
theorem byO_ok {mv : Int → Int → Int → Int} {C : Nat → Int → Int → Int} {d : Int} {V : Int → Option Int} {k : Nat} {p m b : Int} (hV : ∀ q, okO (V q) b) (hC : ∀ k p m, -2000 ≤ C k p m ∧ C k p m ≤ 2000) : okO (byO mv C d V k p m) (b + 2000) := by
  unfold byO
  split
  · exact okO.n _
  · exact (hV _).add (hC _ _ _)
theorem stO_ok {mv : Int → Int → Int → Int} {C : Nat → Int → Int → Int} {d : Int} {V : Int → Option Int} {k : Nat} {p b : Int} (hV : ∀ q, okO (V q) b) (hC : ∀ k p m, -2000 ≤ C k p m ∧ C k p m ≤ 2000) : okO (stO mv C d V k p) (b + 2000) :=
  (((okO.n _).min (byO_ok hV hC)).min (byO_ok hV hC)).min (byO_ok hV hC)
theorem vO_ok {mv : Int → Int → Int → Int} {C : Nat → Int → Int → Int} {d : Int} {g : Int → Option Int} (hg : ∀ p, okO (g p) 0) (hC : ∀ k p m, -2000 ≤ C k p m ∧ C k p m ≤ 2000) : ∀ (e k : Nat) (p : Int), okO (vO mv C d g e k p) (2000 * e)
  | 0, k, p => (hg p).le (by omega)
  | e + 1, k, p => (stO_ok (fun q => vO_ok hg hC e (k + 1) q) hC).le (by omega)
theorem stO_one {mv : Int → Int → Int → Int} {C : Nat → Int → Int → Int} {d : Int} {V : Int → Option Int} {k : Nat} {p : Int} : byO mv C d V k p (-1) = stO mv C d V k p ∨ byO mv C d V k p 0 = stO mv C d V k p ∨ byO mv C d V k p 1 = stO mv C d V k p := by
  unfold stO
  generalize byO mv C d V k p (-1) = a
  generalize byO mv C d V k p 0 = b
  generalize byO mv C d V k p 1 = c
  have key : ∀ x y : Option Int, x = omin x y ∨ y = omin x y := by
    intro x y
    cases x with
    | none => exact Or.inr rfl
    | some x =>
      cases y with
      | none => exact Or.inl rfl
      | some y =>
        show some x = (if y < x then some y else some x) ∨ some y = (if y < x then some y else some x)
        split
        · exact Or.inr rfl
        · exact Or.inl rfl
  rcases key (omin (omin none a) b) c with h | h
  · rw [← h]
    rcases key (omin none a) b with h2 | h2
    · rw [← h2]; exact Or.inl rfl
    · exact Or.inr (Or.inl h2)
  · exact Or.inr (Or.inr h)
/-- what a move costs the class: rudeness if that counts, and the toll -/
noncomputable def cC (br : Int) (mv : Int → Int → Int → Int) (D : Int → Int) (d : Int) (k : Nat) (p m : Int) : Int := (if br = 0 then 0 else mv p m (d + k)) + (if (d + k) % 10 = 9 ∧ d + k < 40 then D (p + m) else 0)
/-- the class's plan stands ready: the land, whether rudeness counts, the tolls -/
noncomputable def PlI (N : am_M) (br : Int) (D : Int → Int) : Prop := Ic N ∧ N 36 6 = br ∧ (br = 0 ∨ br = 1) ∧ (∀ p : Nat, p < 13 → N 37 p = D p) ∧ ∀ k p m, -2000 ≤ cC br (mv_ N) D (N 14 0) k p m ∧ cC br (mv_ N) D (N 14 0) k p m ≤ 2000
theorem c_from {M : am_M} {k : Nat} (hk : k ≤ 20) {q : Int} (hq : -1 ≤ q ∧ q ≤ 13) : ∃ x, X_X4_costFrom_36 k q M = some (x, M) ∧ ∀ n : Nat, n < 13 → q = n → x = M 38 (13 * k + n) := by
  rw [X_X4_costFrom_36, wI_of (x := (k : Int)) (by omega) (by omega), wI_of (x := q) (by omega) (by omega), if_neg (by omega), if_neg (by omega)]
  by_cases c1 : q < 0
  · rw [if_pos c1]; exact ⟨_, rfl, fun n _ h => by omega⟩
  · rw [if_neg c1]
    by_cases c2 : q < 13
    · obtain ⟨j, rfl⟩ := Int.eq_ofNat_of_zero_le (show 0 ≤ q by omega)
      have e : ∀ _ : Unit, wI ((k : Int) * 13 + j) = ((13 * k + j : Nat) : Int) := fun _ => by rw [wI_of (by omega) (by omega)]; push_cast; omega
      rw [if_pos c2, e (), if_pos (by omega), Int.toNat_natCast]
      exact ⟨_, rfl, fun n _ h => by rw [show n = j by omega]⟩
    · rw [if_neg c2]; exact ⟨_, rfl, fun n _ h => by omega⟩
theorem c_costBy {N : am_M} {br : Int} {D : Int → Int} (P : PlI N br D) {f : Nat → Int} {V : Int → Option Int} {k : Nat} (hk : k < 20) (hV : ∀ q : Nat, (q : Int) ≤ N 11 0 → f (13 * (k + 1) + q) = enc 1000000 (V q)) (hO : ∀ q, okO (V q) 38000) {p m : Int} (hp : 0 ≤ p ∧ p ≤ N 11 0) (hm : m = -1 ∨ m = 0 ∨ m = 1) : X_X4_costBy_36 k p m (am_row N 38 f) = some (enc 1000000 (byO (mv_ N) (cC br (mv_ N) D (N 14 0)) (N 14 0) V k p m), am_row N 38 f) := by
  obtain ⟨I, h1, h2, h3, h4⟩ := P
  have r0 := I.r0
  have rs := I.rs
  have B : Ic (am_row N 38 f) := Kc.ic I (Kc.row (by decide))
  have hr := mv_r N p m (N 14 0 + k)
  have s1 : X_X2_rudeness_11 p m (N 14 0 + k) (am_row N 38 f) = some (mv_ N p m (N 14 0 + k), am_row N 38 f) := kc_rud B hp (by omega) (by omega)
  obtain ⟨x, x1, x2⟩ := c_from (M := am_row N 38 f) (k := k + 1) (by omega) (q := p + m) (by omega)
  rw [X_X4_costBy_36, show (am_row N 38 f) 14 0 = N 14 0 from rfl, s1, ob]
  dsimp +instances only
  rw [← Int.natCast_succ, x1, ob]
  dsimp +instances only
  rw [wI_of (x := mv_ N p m (N 14 0 + k)) (by omega) (by omega)]
  unfold byO
  by_cases c : mv_ N p m (N 14 0 + k) = -1
  · rw [if_pos (by omega), if_pos c]; rfl
  · rw [if_neg (by omega), if_neg c]
    have hb := mv_in hm hp c
    obtain ⟨q, hq⟩ := Int.eq_ofNat_of_zero_le hb.1
    have hx : x = enc 1000000 (V (p + m)) := by
      rw [x2 q (by omega) hq, row_s, hV q (by omega), ← hq]
    have ho := hO (p + m)
    have t := c_tollAt (M := am_row N 38 f) (D := D) h3 (b := p + m) (d := N 14 0 + k) (by omega) (by omega)
    have e6 : (am_row N 38 f) 36 6 = br := h1
    have h4' := h4 k p m
    generalize hW : V (p + m) = W at hx ho ⊢
    cases W with
    | none =>
      rw [hx, if_neg (by decide)]; rfl
    | some y =>
      have hy := ho y rfl
      rw [hx]
      show (if wI y < 1000000 then _ else _) = _
      rw [wI_of (x := y) (by omega) (by omega), if_pos (by omega), e6, t, ob, ob]
      dsimp only
      unfold cC
      rcases h2 with rfl | rfl
      · rw [if_pos wI_0, if_pos rfl]
        show some (y + 0 + _, _) = some (y + (0 + _), _)
        rw [Int.add_assoc]
      · rw [if_neg (show ¬ wI 1 = 0 by decide), if_neg (show ¬ (1 : Int) = 0 by decide)]
        show some (y + _ + _, _) = some (y + (_ + _), _)
        rw [Int.add_assoc]
theorem c_lc1 (kk : Int → am_M → am_Rs) {N : am_M} {br : Int} {D : Int → Int} (P : PlI N br D) {f : Nat → Int} {V : Int → Option Int} {k : Nat} (hk : k < 20) (hV : ∀ q : Nat, (q : Int) ≤ N 11 0 → f (13 * (k + 1) + q) = enc 1000000 (V q)) (hO : ∀ q, okO (V q) 38000) {p m : Int} (hp : 0 ≤ p ∧ p ≤ N 11 0) (hm : m = -1 ∨ m = 0 ∨ m = 1) (n : Nat) {a : Option Int} (ha : okO a 40000) : XL_X4_leastCost_36_1 kk (n + 1) k p (enc 1000000 a) m (am_row N 38 f) = XL_X4_leastCost_36_1 kk n k p (enc 1000000 (omin a (byO (mv_ N) (cC br (mv_ N) D (N 14 0)) (N 14 0) V k p m))) (m + 1) (am_row N 38 f) := by
  have hb : okO (byO (mv_ N) (cC br (mv_ N) D (N 14 0)) (N 14 0) V k p m) 40000 := byO_ok hO P.2.2.2.2
  rw [XL_X4_leastCost_36_1, XB_X4_leastCost_36_1, wI_of (x := m) (by omega) (by omega), if_neg (by omega), c_costBy P hk hV hO hp hm, ob]
  dsimp +instances only
  rw [wIe ha, wIe hb, enc_min ha hb (by decide)]
theorem c_least {N : am_M} {br : Int} {D : Int → Int} (P : PlI N br D) {f : Nat → Int} {V : Int → Option Int} {k : Nat} (hk : k < 20) (hV : ∀ q : Nat, (q : Int) ≤ N 11 0 → f (13 * (k + 1) + q) = enc 1000000 (V q)) (hO : ∀ q, okO (V q) 38000) {p : Int} (hp : 0 ≤ p ∧ p ≤ N 11 0) : X_X4_leastCost_36 k p (am_row N 38 f) = some (enc 1000000 (stO (mv_ N) (cC br (mv_ N) D (N 14 0)) (N 14 0) V k p), am_row N 38 f) := by
  have hb : ∀ m, okO (byO (mv_ N) (cC br (mv_ N) D (N 14 0)) (N 14 0) V k p m) 40000 := fun m => byO_ok hO P.2.2.2.2
  have e1 : XL_X4_leastCost_36_1 XB_X4_leastCost_36_3 1000 k p 1000000 (-1) (am_row N 38 f) = _ := c_lc1 XB_X4_leastCost_36_3 P hk hV hO hp (m := -1) (Or.inl rfl) 999 (a := none) (okO.n _)
  have e2 : ∀ a, okO a 40000 → XL_X4_leastCost_36_1 XB_X4_leastCost_36_3 999 k p (enc 1000000 a) (-1 + 1) (am_row N 38 f) = _ := fun a ha => c_lc1 XB_X4_leastCost_36_3 P hk hV hO hp (m := -1 + 1) (Or.inr (Or.inl rfl)) 998 ha
  have e3 : ∀ a, okO a 40000 → XL_X4_leastCost_36_1 XB_X4_leastCost_36_3 998 k p (enc 1000000 a) (-1 + 1 + 1) (am_row N 38 f) = _ := fun a ha => c_lc1 XB_X4_leastCost_36_3 P hk hV hO hp (m := -1 + 1 + 1) (Or.inr (Or.inr rfl)) 997 ha
  rw [X_X4_leastCost_36, XB_X4_leastCost_36_e, e1, e2 _ ((okO.n _).min (hb _)), e3 _ (((okO.n _).min (hb _)).min (hb _)), XL_X4_leastCost_36_1, XB_X4_leastCost_36_1, if_pos (by decide), XB_X4_leastCost_36_3]
  rfl
theorem c_set {N : am_M} {f : Nat → Int} {k p : Nat} (hk : k ≤ 20) (hp : p < 13) (v : Int) : X_X4_setCost_36 k p v (am_row N 38 f) = some (0, am_row N 38 fun j => if j = 13 * k + p then v else f j) := by
  have e : ∀ _ : Unit, wI ((k : Int) * 13 + p) = ((13 * k + p : Nat) : Int) := fun _ => by rw [wI_of (by omega) (by omega)]; push_cast; omega
  rw [X_X4_setCost_36, wI_of (x := (k : Int)) (by omega) (by omega), wI_of (x := (p : Int)) (by omega) (by omega), if_neg (by omega), if_neg (by omega), if_neg (by omega), if_pos (by omega), e (), if_pos (by omega), Int.toNat_natCast, up_row, row_row, row_s]
/-- a table that is laid from row k0 on -/
noncomputable def Tb (F s : Int) (U : Nat → Int → Option Int) (n k0 : Nat) (f : Nat → Int) : Prop := ∀ k, k0 ≤ k → k ≤ n → ∀ p : Nat, (p : Int) ≤ s → f (13 * k + p) = enc F (U k p)
theorem lp_s1 (kk : Int → am_M → am_Rs) {N : am_M} (I : Ic N) {g : Int → Option Int} {goal : Int} {n : Nat} (hn : n ≤ 20) (hg : ∀ p : Nat, (p : Int) ≤ N 11 0 → enc 1000000 (g p) = if goal = -1 ∨ goal = p then 0 else 1000000) (hgo : -1 ≤ goal ∧ goal ≤ 12) : ∀ (e n1 i : Nat) (f : Nat → Int), (i : Int) + e = N 11 0 + 1 → e < n1 → (∀ p : Nat, p < i → f (13 * n + p) = enc 1000000 (g p)) → ∃ f', XL_X4_solve_36_1 kk n1 n goal i (am_row N 38 f) = kk n (am_row N 38 f') ∧ ∀ p : Nat, (p : Int) ≤ N 11 0 → f' (13 * n + p) = enc 1000000 (g p) := by
  intro e
  induction e with
  | zero =>
    intro n1 i f hi hn1 hf
    have rs := I.rs
    obtain ⟨n1, rfl⟩ : ∃ m, n1 = m + 1 := ⟨n1 - 1, by omega⟩
    refine ⟨f, ?_, fun p hp => hf p (by omega)⟩
    rw [XL_X4_solve_36_1, XB_X4_solve_36_1, show (am_row N 38 f) 11 0 = N 11 0 from rfl, wI_of (x := (i : Int)) (by omega) (by omega), wI_of (x := N 11 0) (by omega) (by omega), if_pos (by omega)]
  | succ e ih =>
    intro n1 i f hi hn1 hf
    have rs := I.rs
    obtain ⟨n1, rfl⟩ : ∃ m, n1 = m + 1 := ⟨n1 - 1, by omega⟩
    have hgi := hg i (by omega)
    obtain ⟨f', a1, a2⟩ := ih n1 (i + 1) (fun j => if j = 13 * n + i then enc 1000000 (g i) else f j) (by push_cast; omega) (by omega) (fun p hp => by
      by_cases c : p = i
      · subst c; rw [if_pos rfl]
      · rw [if_neg (by omega)]; exact hf p (by omega))
    refine ⟨f', ?_, a2⟩
    rw [XL_X4_solve_36_1, XB_X4_solve_36_1, show (am_row N 38 f) 11 0 = N 11 0 from rfl, wI_of (x := (i : Int)) (by omega) (by omega), wI_of (x := N 11 0) (by omega) (by omega), if_neg (by omega), wI_of (x := goal) (by omega) (by omega)]
    by_cases c1 : goal = -1
    · rw [if_pos (Or.inl c1)] at hgi
      rw [hgi] at a1
      rw [if_pos c1, c_set hn (by omega), ob]
      exact a1
    · rw [if_neg c1]
      by_cases c2 : goal = i
      · rw [if_pos (Or.inr c2)] at hgi
        rw [hgi] at a1
        rw [if_pos c2, c_set hn (by omega), ob]
        exact a1
      · rw [if_neg (by omega)] at hgi
        rw [hgi] at a1
        rw [if_neg c2, c_set hn (by omega), ob]
        exact a1
theorem lp_s10 (kk : Int → am_M → am_Rs) {N : am_M} {br : Int} {D : Int → Int} (P : PlI N br D) {U : Nat → Int → Option Int} {n k : Nat} (hn : n ≤ 20) (hk : k < n) (hU : ∀ p, U k p = stO (mv_ N) (cC br (mv_ N) D (N 14 0)) (N 14 0) (U (k + 1)) k p) (hO : ∀ q, okO (U (k + 1) q) 38000) : ∀ (e n1 i : Nat) (f : Nat → Int), (i : Int) + e = N 11 0 + 1 → e < n1 → Tb 1000000 (N 11 0) U n (k + 1) f → (∀ p : Nat, p < i → f (13 * k + p) = enc 1000000 (U k p)) → ∃ f', XL_X4_solve_36_10 kk n1 k i (am_row N 38 f) = kk k (am_row N 38 f') ∧ Tb 1000000 (N 11 0) U n k f' := by
  intro e
  induction e with
  | zero =>
    intro n1 i f hi hn1 hT hf
    have rs := P.1.rs
    obtain ⟨n1, rfl⟩ : ∃ m, n1 = m + 1 := ⟨n1 - 1, by omega⟩
    refine ⟨f, ?_, fun k' h1 h2 p hp => ?_⟩
    · rw [XL_X4_solve_36_10, XB_X4_solve_36_10, show (am_row N 38 f) 11 0 = N 11 0 from rfl, wI_of (x := (i : Int)) (by omega) (by omega), wI_of (x := N 11 0) (by omega) (by omega), if_pos (by omega)]
    · rcases Nat.lt_or_eq_of_le h1 with h | h
      · exact hT k' h h2 p hp
      · subst h; exact hf p (by omega)
  | succ e ih =>
    intro n1 i f hi hn1 hT hf
    have rs := P.1.rs
    obtain ⟨n1, rfl⟩ : ∃ m, n1 = m + 1 := ⟨n1 - 1, by omega⟩
    obtain ⟨f', a1, a2⟩ := ih n1 (i + 1) (fun j => if j = 13 * k + i then enc 1000000 (U k i) else f j) (by push_cast; omega) (by omega) (fun k' h1 h2 p hp => by show (if 13 * k' + p = 13 * k + i then _ else _) = _; rw [if_neg (by omega)]; exact hT k' h1 h2 p hp) (fun p hp => by
      by_cases c : p = i
      · subst c; rw [if_pos rfl]
      · rw [if_neg (by omega)]; exact hf p (by omega))
    refine ⟨f', ?_, a2⟩
    rw [XL_X4_solve_36_10, XB_X4_solve_36_10, show (am_row N 38 f) 11 0 = N 11 0 from rfl, wI_of (x := (i : Int)) (by omega) (by omega), wI_of (x := N 11 0) (by omega) (by omega), if_neg (by omega), c_least P (V := U (k + 1)) (by omega) (fun q hq => hT (k + 1) (by omega) (by omega) q hq) hO (by omega), ob]
    dsimp only
    rw [c_set (by omega) (by omega), ob, ← hU]
    exact a1
theorem lp_s8 (kk : am_M → am_Rs) {N : am_M} {br : Int} {D : Int → Int} (P : PlI N br D) {U : Nat → Int → Option Int} {n : Nat} (hn : n ≤ 20) (hU : ∀ k, k < n → ∀ p, U k p = stO (mv_ N) (cC br (mv_ N) D (N 14 0)) (N 14 0) (U (k + 1)) k p) (hO : ∀ k, 1 ≤ k → ∀ q, okO (U k q) 38000) : ∀ (e n1 : Nat) (f : Nat → Int), e ≤ n → e < n1 → Tb 1000000 (N 11 0) U n e f → ∃ f', XL_X4_solve_36_8 kk n1 ((e : Int) - 1) (am_row N 38 f) = kk (am_row N 38 f') ∧ Tb 1000000 (N 11 0) U n 0 f' := by
  intro e
  induction e with
  | zero =>
    intro n1 f he hn1 hT
    obtain ⟨n1, rfl⟩ : ∃ m, n1 = m + 1 := ⟨n1 - 1, by omega⟩
    refine ⟨f, ?_, hT⟩
    rw [XL_X4_solve_36_8, XB_X4_solve_36_8, if_pos (by decide)]
  | succ e ih =>
    intro n1 f he hn1 hT
    have rs := P.1.rs
    obtain ⟨n1, rfl⟩ : ∃ m, n1 = m + 1 := ⟨n1 - 1, by omega⟩
    obtain ⟨f1, a1, a2⟩ := lp_s10 (XB_X4_solve_36_12 (XL_X4_solve_36_8 kk n1)) P (U := U) (n := n) (k := e) hn (by omega) (hU e (by omega)) (hO (e + 1) (by omega)) (N 11 0 + 1).toNat 1000 0 f (by omega) (by omega) hT (fun p hp => by omega)
    obtain ⟨f', b1, b2⟩ := ih n1 f1 (by omega) (by omega) a2
    refine ⟨f', ?_, b2⟩
    rw [show ((0 : Nat) : Int) = 0 from rfl] at a1
    rw [XL_X4_solve_36_8, XB_X4_solve_36_8, show ((e + 1 : Nat) : Int) - 1 = (e : Int) by omega, wI_of (x := (e : Int)) (by omega) (by omega), if_neg (by omega), a1, XB_X4_solve_36_12]
    exact b1
noncomputable def gO (goal p : Int) : Option Int := if goal = -1 ∨ goal = p then some 0 else none
theorem gO_ok (goal p : Int) : okO (gO goal p) 0 := by
  unfold gO
  intro x hx
  split at hx
  · cases hx; decide
  · cases hx
/-- the table's values: n days in all, from the last one back -/
noncomputable def uO (mv : Int → Int → Int → Int) (C : Nat → Int → Int → Int) (d goal : Int) (n k : Nat) (p : Int) : Option Int := vO mv C d (gO goal) (n - k) k p
theorem uO_s {mv : Int → Int → Int → Int} {C : Nat → Int → Int → Int} {d goal : Int} {n k : Nat} (h : k < n) (p : Int) : uO mv C d goal n k p = stO mv C d (uO mv C d goal n (k + 1)) k p := by
  unfold uO
  rw [show n - k = (n - (k + 1)) + 1 by omega]
  rfl
theorem uO_ok {mv : Int → Int → Int → Int} {C : Nat → Int → Int → Int} {d goal : Int} {n : Nat} (hn : n ≤ 20) (hC : ∀ k p m, -2000 ≤ C k p m ∧ C k p m ≤ 2000) (k : Nat) (p : Int) : okO (uO mv C d goal n k p) 40000 := (vO_ok (gO_ok goal) hC (n - k) k p).le (by omega)
theorem uO_ok1 {mv : Int → Int → Int → Int} {C : Nat → Int → Int → Int} {d goal : Int} {n : Nat} (hn : n ≤ 20) (hC : ∀ k p m, -2000 ≤ C k p m ∧ C k p m ≤ 2000) {k : Nat} (hk : 1 ≤ k) (p : Int) : okO (uO mv C d goal n k p) 38000 := (vO_ok (gO_ok goal) hC (n - k) k p).le (by omega)
theorem sp_solve {N : am_M} {br : Int} {D : Int → Int} (P : PlI (am_up N 36 6 br) br D) {n : Nat} (hn : n ≤ 20) {goal : Int} (hgo : -1 ≤ goal ∧ goal ≤ 12) : ∃ f, X_X4_solve_36 n goal br N = some (0, am_row (am_up N 36 6 br) 38 f) ∧ Tb 1000000 (N 11 0) (uO (mv_ N) (cC br (mv_ N) D (N 14 0)) (N 14 0) goal n) n 0 f := by
  have rs := P.1.rs
  have hC := P.2.2.2.2
  obtain ⟨f1, a1, a2⟩ := lp_s1 (XB_X4_solve_36_7 (XL_X4_solve_36_8 XB_X4_solve_36_13 1000)) P.1 (g := gO goal) (goal := goal) hn (fun p _ => by unfold gO; split <;> rfl) hgo ((N 11 0 + 1).toNat) 1000 0 (N 38) (show ((0 : Nat) : Int) + _ = N 11 0 + 1 by have : 0 ≤ N 11 0 := rs.1; omega) (by have : N 11 0 ≤ 12 := rs.2; omega) (fun p hp => by omega)
  obtain ⟨f2, b1, b2⟩ := lp_s8 XB_X4_solve_36_13 P (U := uO (mv_ N) (cC br (mv_ N) D (N 14 0)) (N 14 0) goal n) hn (fun k hk p => uO_s hk p) (fun k hk q => uO_ok1 hn hC hk q) n 1000 f1 (Nat.le_refl _) (by omega) (fun k h1 h2 p hp => by
    have : k = n := by omega
    subst this
    rw [a2 p hp]
    unfold uO
    rw [Nat.sub_self]; rfl)
  refine ⟨f2, ?_, b2⟩
  rw [show ((0 : Nat) : Int) = 0 from rfl] at a1
  have e : am_row (am_up N 36 6 br) 38 (N 38) = am_up N 36 6 br := row_self (am_up N 36 6 br) 38
  rw [e] at a1
  rw [X_X4_solve_36, XB_X4_solve_36_e, if_pos P.2.2.1, a1, XB_X4_solve_36_7, b1]
  rfl
end
section
/-! The first of the best moves, and the row of them, on the class's side. -/
noncomputable def fmO (mv : Int → Int → Int → Int) (C : Nat → Int → Int → Int) (d : Int) (V : Int → Option Int) (k : Nat) (p : Int) (w : Option Int) : Int := if byO mv C d V k p (-1) = w then -1 else if byO mv C d V k p 0 = w then 0 else if byO mv C d V k p 1 = w then 1 else 0
noncomputable def fmU (mv : Int → Int → Int → Int) (C : Nat → Int → Int → Int) (d goal : Int) (n k : Nat) (p : Int) : Int := fmO mv C d (uO mv C d goal n (k + 1)) k p (uO mv C d goal n k p)
theorem fmU_m (mv : Int → Int → Int → Int) (C : Nat → Int → Int → Int) (d goal : Int) (n k : Nat) (p : Int) : mvs (fmU mv C d goal n k p) := by
  unfold fmU fmO mvs
  split
  · exact Or.inl rfl
  · split
    · exact Or.inr (Or.inl rfl)
    · split
      · exact Or.inr (Or.inr rfl)
      · exact Or.inr (Or.inl rfl)
theorem fmU_b {mv : Int → Int → Int → Int} {C : Nat → Int → Int → Int} {d goal : Int} {n k : Nat} (h : k < n) (p : Int) : byO mv C d (uO mv C d goal n (k + 1)) k p (fmU mv C d goal n k p) = uO mv C d goal n k p := by
  have h1 := stO_one (mv := mv) (C := C) (d := d) (V := uO mv C d goal n (k + 1)) (k := k) (p := p)
  rw [← uO_s h] at h1
  unfold fmU fmO
  by_cases c1 : byO mv C d (uO mv C d goal n (k + 1)) k p (-1) = uO mv C d goal n k p
  · rw [if_pos c1]; exact c1
  · rw [if_neg c1]
    by_cases c2 : byO mv C d (uO mv C d goal n (k + 1)) k p 0 = uO mv C d goal n k p
    · rw [if_pos c2]; exact c2
    · rw [if_neg c2]
      rcases h1 with h1 | h1 | h1
      · exact absurd h1 c1
      · exact absurd h1 c2
      · rw [if_pos h1]; exact h1
theorem fmU_s {mv : Int → Int → Int → Int} {C : Nat → Int → Int → Int} {d goal : Int} {n k : Nat} (h : k < n) {p x : Int} (hx : uO mv C d goal n k p = some x) : mv p (fmU mv C d goal n k p) (d + k) ≠ -1 ∧ ∃ y, uO mv C d goal n (k + 1) (p + fmU mv C d goal n k p) = some y := by
  have h1 := fmU_b (mv := mv) (C := C) (d := d) (goal := goal) h p
  rw [hx] at h1
  unfold byO at h1
  split at h1
  · cases h1
  · rename_i c
    refine ⟨c, ?_⟩
    cases hq : uO mv C d goal n (k + 1) (p + fmU mv C d goal n k p) with
    | none => rw [hq] at h1; cases h1
    | some y => exact ⟨y, rfl⟩
/-- the row of the first best moves from place p at day k on -/
noncomputable def ptO (mv : Int → Int → Int → Int) (C : Nat → Int → Int → Int) (d goal : Int) (n : Nat) : Nat → Nat → Int → Nat → Int
  | 0, _, _, _ => 0
  | e + 1, k, p, j => if j = k then fmU mv C d goal n k p else ptO mv C d goal n e (k + 1) (p + fmU mv C d goal n k p) j
theorem ptO_r (mv : Int → Int → Int → Int) (C : Nat → Int → Int → Int) (d goal : Int) (n : Nat) : ∀ (e k : Nat) (p : Int) (j : Nat), -1 ≤ ptO mv C d goal n e k p j ∧ ptO mv C d goal n e k p j ≤ 1
  | 0, _, _, _ => by unfold ptO; decide
  | e + 1, k, p, j => by
    unfold ptO
    split
    · have := fmU_m mv C d goal n k p
      unfold mvs at this
      omega
    · exact ptO_r mv C d goal n e (k + 1) _ j
theorem c_fm1 (k5 : am_M → am_Rs) {M : am_M} {br : Int} {D : Int → Int} (P : PlI M br D) {V : Int → Option Int} {k : Nat} (hk : k < 20) (hV : ∀ q : Nat, (q : Int) ≤ M 11 0 → M 38 (13 * (k + 1) + q) = enc 1000000 (V q)) (hO : ∀ q, okO (V q) 38000) {p m : Int} (hp : 0 ≤ p ∧ p ≤ M 11 0) (hm : m = -1 ∨ m = 0 ∨ m = 1) (n : Nat) {w : Option Int} (hw : okO w 40000) : XL_X4_firstMove_36_1 k5 (n + 1) k p (enc 1000000 w) m M = if byO (mv_ M) (cC br (mv_ M) D (M 14 0)) (M 14 0) V k p m = w then some (m, M) else XL_X4_firstMove_36_1 k5 n k p (enc 1000000 w) (m + 1) M := by
  have hb : okO (byO (mv_ M) (cC br (mv_ M) D (M 14 0)) (M 14 0) V k p m) 40000 := byO_ok hO P.2.2.2.2
  have e := c_costBy P (f := M 38) hk hV hO hp hm
  rw [row_self] at e
  rw [XL_X4_firstMove_36_1, XB_X4_firstMove_36_1, wI_of (x := m) (by omega) (by omega), if_neg (by omega), e, ob]
  dsimp +instances only
  rw [wIe hb, wIe hw]
  by_cases c : byO (mv_ M) (cC br (mv_ M) D (M 14 0)) (M 14 0) V k p m = w
  · rw [if_pos ((enc_inj hb hw (by decide)).mpr c), if_pos c]
  · rw [if_neg (fun h => c ((enc_inj hb hw (by decide)).mp h)), if_neg c]
theorem c_fm {M : am_M} {br : Int} {D : Int → Int} (P : PlI M br D) {V : Int → Option Int} {k : Nat} (hk : k < 20) (hV : ∀ q : Nat, (q : Int) ≤ M 11 0 → M 38 (13 * (k + 1) + q) = enc 1000000 (V q)) (hO : ∀ q, okO (V q) 38000) {p : Nat} (hp : (p : Int) ≤ M 11 0) {w : Option Int} (hw : okO w 40000) (hW : M 38 (13 * k + p) = enc 1000000 w) : X_X4_firstMove_36 k p M = some (fmO (mv_ M) (cC br (mv_ M) D (M 14 0)) (M 14 0) V k p w, M) := by
  have rs := P.1.rs
  obtain ⟨x, x1, x2⟩ := c_from (M := M) (k := k) (by omega) (q := (p : Int)) (by omega)
  have hx := x2 p (by omega) rfl
  rw [hW] at hx
  have hp2 : 0 ≤ (p : Int) ∧ (p : Int) ≤ M 11 0 := by omega
  have e1 : XL_X4_firstMove_36_1 XB_X4_firstMove_36_5 1000 k p (enc 1000000 w) (-1) M = _ := c_fm1 XB_X4_firstMove_36_5 P hk hV hO hp2 (m := -1) (Or.inl rfl) 999 hw
  have e2 : XL_X4_firstMove_36_1 XB_X4_firstMove_36_5 999 k p (enc 1000000 w) (-1 + 1) M = _ := c_fm1 XB_X4_firstMove_36_5 P hk hV hO hp2 (m := -1 + 1) (Or.inr (Or.inl rfl)) 998 hw
  have e3 : XL_X4_firstMove_36_1 XB_X4_firstMove_36_5 998 k p (enc 1000000 w) (-1 + 1 + 1) M = _ := c_fm1 XB_X4_firstMove_36_5 P hk hV hO hp2 (m := -1 + 1 + 1) (Or.inr (Or.inr rfl)) 997 hw
  rw [X_X4_firstMove_36, XB_X4_firstMove_36_e, x1, ob]
  dsimp only
  rw [hx, e1, e2, e3, XL_X4_firstMove_36_1, XB_X4_firstMove_36_1, if_pos (show 1 < wI (-1 + 1 + 1 + 1) by decide), XB_X4_firstMove_36_5]
  unfold fmO
  show (if byO _ _ _ V k p (-1) = w then _ else if byO _ _ _ V k p 0 = w then _ else if byO _ _ _ V k p 1 = w then _ else _) = _
  split
  · rfl
  · split
    · rfl
    · split <;> rfl
theorem PlI.k {M M' : am_M} {br : Int} {D : Int → Int} (P : PlI M br D) (h : Kc M M') (h36 : M' 36 = M 36) (h37 : M' 37 = M 37) : PlI M' br D := by
  have q11 := h.1 11 (by decide)
  have q12 := h.1 12 (by decide)
  have q14 := h.1 14 (by decide)
  have km : mv_ M' = mv_ M := by funext b m d; unfold mv_; rw [q11, q12]
  refine ⟨Kc.ic P.1 h, by rw [h36]; exact P.2.1, P.2.2.1, by rw [h37]; exact P.2.2.2.1, ?_⟩
  rw [km, q14]; exact P.2.2.2.2
theorem lp_plan (k3 : am_M → am_Rs) {M : am_M} {br : Int} {D : Int → Int} (P : PlI M br D) (hS : Sh1 M) {n : Nat} (hn : n ≤ 20) {goal : Int} (hT : Tb 1000000 (M 11 0) (uO (mv_ M) (cC br (mv_ M) D (M 14 0)) (M 14 0) goal n) n 0 (M 38)) {r : Nat} (hr : r < 6) (hsz : M 2 r = n) : ∀ (e n1 k : Nat) (p x : Int) (h : Nat → Int), k + e = n → e < n1 → (0 ≤ p ∧ p ≤ M 11 0) → uO (mv_ M) (cC br (mv_ M) D (M 14 0)) (M 14 0) goal n k p = some x → XL_X8_layPlan_0_1 k3 n1 n r p k (am_row M 3 h) = k3 (am_row M 3 fun j => if 40 * r + k ≤ j ∧ j < 40 * r + n then ptO (mv_ M) (cC br (mv_ M) D (M 14 0)) (M 14 0) goal n e k p (j - 40 * r) else h j) := by
  intro e
  induction e with
  | zero =>
    intro n1 k p x h hk hn1 hp hx
    obtain ⟨n1, rfl⟩ : ∃ m, n1 = m + 1 := ⟨n1 - 1, by omega⟩
    rw [XL_X8_layPlan_0_1, XB_X8_layPlan_0_1, wI_of (x := (k : Int)) (by omega) (by omega), wI_of (x := (n : Int)) (by omega) (by omega), if_neg (by omega)]
    refine congrArg (fun F => k3 (am_row M 3 F)) (funext fun j => ?_)
    rw [if_neg (by omega)]
  | succ e ih =>
    intro n1 k p x h hk hn1 hp hx
    have rs := P.1.rs
    obtain ⟨n1, rfl⟩ : ∃ m, n1 = m + 1 := ⟨n1 - 1, by omega⟩
    obtain ⟨q, rfl⟩ := Int.eq_ofNat_of_zero_le hp.1
    have hC := P.2.2.2.2
    have P' : PlI (am_row M 3 h) br D := P.k (Kc.row (by decide)) rfl rfl
    have fm : X_X4_firstMove_36 k q (am_row M 3 h) = some (fmU (mv_ M) (cC br (mv_ M) D (M 14 0)) (M 14 0) goal n k q, am_row M 3 h) := c_fm P' (V := uO (mv_ M) (cC br (mv_ M) D (M 14 0)) (M 14 0) goal n (k + 1)) (w := uO (mv_ M) (cC br (mv_ M) D (M 14 0)) (M 14 0) goal n k q) (by omega) (fun q hq => hT (k + 1) (by omega) (by omega) q hq) (fun q => uO_ok1 hn hC (by omega) q) (p := q) hp.2 (uO_ok hn hC k q) (hT k (by omega) (by omega) q hp.2)
    have hm := fmU_m (mv_ M) (cC br (mv_ M) D (M 14 0)) (M 14 0) goal n k q
    obtain ⟨hs1, y, hy⟩ := fmU_s (show k < n by omega) hx
    have hb := mv_in (M := M) hm hp hs1
    generalize hF : fmU (mv_ M) (cC br (mv_ M) D (M 14 0)) (M 14 0) goal n k q = F at fm hm hs1 hy hb
    have hS' : Sh1 (am_row M 3 h) := hS
    have st : X_X6_set_1 r k F (am_row M 3 h) = some (0, am_row M 3 fun j => if j = 40 * r + k then F else h j) := by
      rw [sp_set_1 hS' (by omega) (show 0 ≤ (k : Int) ∧ (k : Int) < M 2 (r : Int).toNat by rw [Int.toNat_natCast, hsz]; omega), show ((40 : Int) * r + k).toNat = 40 * r + k by omega, up_row, row_row, row_s]
    rw [XL_X8_layPlan_0_1, XB_X8_layPlan_0_1, wI_of (x := (k : Int)) (by omega) (by omega), wI_of (x := (n : Int)) (by omega) (by omega), if_pos (by omega), fm, ob]
    dsimp only
    rw [st, ob]
    dsimp only
    rw [← Int.natCast_succ, ih n1 (k + 1) ((q : Int) + F) y _ (by omega) (by omega) hb hy]
    refine congrArg (fun F => k3 (am_row M 3 F)) (funext fun j => ?_)
    by_cases c1 : j = 40 * r + k
    · subst c1
      rw [if_neg (by omega), if_pos rfl, if_pos (by omega), show 40 * r + k - 40 * r = k by omega, ptO, if_pos rfl, hF]
    · rw [if_neg c1]
      by_cases c2 : 40 * r + (k + 1) ≤ j ∧ j < 40 * r + n
      · rw [if_pos c2, if_pos (by omega), ptO, if_neg (by omega), hF]
      · rw [if_neg c2, if_neg (by omega)]
/-- the class's row of moves -/
theorem sp_plan {M : am_M} {br : Int} {D : Int → Int} (P : PlI M br D) (hS : Sh1 M) {n : Nat} (hn : n ≤ 20) {goal : Int} (hT : Tb 1000000 (M 11 0) (uO (mv_ M) (cC br (mv_ M) D (M 14 0)) (M 14 0) goal n) n 0 (M 38)) {r : Nat} (hr : r < 6) {x : Int} (hx : uO (mv_ M) (cC br (mv_ M) D (M 14 0)) (M 14 0) goal n 0 (M 14 1) = some x) : X_X8_layPlan_0 n r M = some (0, am_row (am_up M 2 r n) 3 fun j => if 40 * r ≤ j ∧ j < 40 * r + n then ptO (mv_ M) (cC br (mv_ M) D (M 14 0)) (M 14 0) goal n n 0 (M 14 1) (j - 40 * r) else M 3 j) := by
  have mk := sp_make_1 hS (r := (r : Int)) (n := (n : Int)) (by omega) (by omega)
  rw [Int.toNat_natCast] at mk
  obtain ⟨N, hN⟩ : ∃ N, N = am_up M 2 r (n : Int) := ⟨_, rfl⟩
  rw [← hN] at mk
  have PN : PlI N br D := by rw [hN]; exact P.k (Kc.up (by decide)) rfl rfl
  have f : ∀ c, c ≠ 2 → N c = M c := fun c h => by rw [hN, up_a h]
  have km : mv_ N = mv_ M := by funext b m d; unfold mv_; rw [f 11 (by decide), f 12 (by decide)]
  have hS' : Sh1 N := by
    refine ⟨by rw [f 1 (by decide)]; exact hS.1, by rw [f 1 (by decide)]; exact hS.2.1, by rw [f 1 (by decide)]; exact hS.2.2.1, fun q => ?_⟩
    rw [hN]
    by_cases c : q = r
    · subst c; rw [up_s]; omega
    · rw [up_j c]; exact hS.2.2.2 q
  have l := lp_plan XB_X8_layPlan_0_3 PN hS' hn (goal := goal) (r := r) (by rw [km, f 11 (by decide), f 14 (by decide), f 38 (by decide)]; exact hT) hr (by rw [hN, up_s]) n 1000 0 (M 14 1) x (fun j => if 40 * (r : Int) ≤ (j : Int) ∧ (j : Int) < 40 * (r : Int) + n then 0 else M 3 j) (by omega) (by omega) (by rw [f 11 (by decide)]; exact P.1.r1) (by rw [km, f 14 (by decide)]; exact hx)
  rw [km, f 14 (by decide), show ((0 : Nat) : Int) = 0 from rfl] at l
  rw [X_X8_layPlan_0, XB_X8_layPlan_0_e, mk, ob]
  dsimp only
  rw [row_a (by decide), f 14 (by decide), l, XB_X8_layPlan_0_3, ← hN]
  refine congrArg (fun F => some ((0 : Int), am_row N 3 F)) (funext fun j => ?_)
  by_cases c : 40 * r ≤ j ∧ j < 40 * r + n
  · rw [if_pos c, if_pos (by omega)]
  · rw [if_neg c, if_neg (by omega), if_neg (by omega)]
end
section
/-! The reference's table, and its row of the first best moves. -/
/-- the reference's values stand ready: the land, what counts, whose; what a move costs -/
noncomputable def MlI (N : am_M) (cn wh : Int) (C : Nat → Int → Int → Int) : Prop := Ic N ∧ N 53 22 = cn ∧ N 53 23 = wh ∧ (∀ M' : am_M, Kc N M' → M' 53 22 = cn → M' 53 23 = wh → ∀ (k : Nat) (p m : Int), k < 20 → (0 ≤ p ∧ p ≤ N 11 0) → mvs m → mv_ N p m (N 14 0 + k) ≠ -1 → X_X9_costOf_53 p (N 14 0 + k) m M' = some (C k p m, M')) ∧ ∀ k p m, -2000 ≤ C k p m ∧ C k p m ≤ 2000
theorem MlI.k {M M' : am_M} {cn wh : Int} {C : Nat → Int → Int → Int} (P : MlI M cn wh C) (h : Kc M M') (h22 : M' 53 22 = M 53 22) (h23 : M' 53 23 = M 53 23) : MlI M' cn wh C := by
  have q11 := h.1 11 (by decide)
  have q12 := h.1 12 (by decide)
  have q14 := h.1 14 (by decide)
  have km : mv_ M' = mv_ M := by funext b m d; unfold mv_; rw [q11, q12]
  refine ⟨Kc.ic P.1 h, by rw [h22]; exact P.2.1, by rw [h23]; exact P.2.2.1, ?_, P.2.2.2.2⟩
  rw [km, q14, q11]
  exact fun M2 g => P.2.2.2.1 M2 (h.tr g)
theorem m_valBy {N : am_M} {cn wh : Int} {C : Nat → Int → Int → Int} (P : MlI N cn wh C) {f : Nat → Int} {V : Int → Option Int} {k : Nat} (hk : k < 20) (hV : ∀ q : Nat, (q : Int) ≤ N 11 0 → f (13 * (k + 1) + q) = enc 1048576 (V q)) (hO : ∀ q, okO (V q) 38000) {p m : Int} (hp : 0 ≤ p ∧ p ≤ N 11 0) (hm : m = -1 ∨ m = 0 ∨ m = 1) : X_X9_valueBy_53 k p m (am_row N 64 f) = some (enc 1048576 (byO (mv_ N) C (N 14 0) V k p m), am_row N 64 f) := by
  obtain ⟨I, h1, h2, h3, h4⟩ := P
  have r0 := I.r0
  have rs := I.rs
  have B : Ic (am_row N 64 f) := Kc.ic I (Kc.row (by decide))
  have s1 : X_X9_canBe_53 p (N 14 0 + k) m (am_row N 64 f) = some (b2 (mv_ N p m (N 14 0 + k) ≠ -1), am_row N 64 f) := km_can B hp (by omega) (by omega)
  rw [X_X9_valueBy_53, show (am_row N 64 f) 54 0 = N 14 0 from I.d0, s1, ob]
  dsimp +instances only
  unfold byO
  by_cases c : mv_ N p m (N 14 0 + k) = -1
  · rw [if_pos (show wI (b2 (mv_ N p m (N 14 0 + k) ≠ -1)) = 0 by rw [b2_f (fun q => q c)]; rfl), if_pos c]; rfl
  · rw [if_neg (show ¬ wI (b2 (mv_ N p m (N 14 0 + k) ≠ -1)) = 0 by rw [b2_t c]; decide), if_neg c]
    have hb := mv_in hm hp c
    obtain ⟨q, hq⟩ := Int.eq_ofNat_of_zero_le hb.1
    have e : ∀ _ : Unit, wI (13 * ((k : Int) + 1) + p + m) = ((13 * (k + 1) + q : Nat) : Int) := fun _ => by rw [wI_of (by omega) (by omega)]; push_cast; omega
    have hx : (am_row N 64 f) 64 (13 * (k + 1) + q) = enc 1048576 (V (p + m)) := by rw [row_s, hV q (by omega), ← hq]
    have co := h3 (am_row N 64 f) (Kc.row (by decide)) h1 h2 k p m hk hp hm c
    have ho := hO (p + m)
    rw [e (), Int.toNat_natCast, if_pos (by omega), hx]
    generalize V (p + m) = W at ho ⊢
    cases W with
    | none => rw [if_neg (by decide)]; rfl
    | some y =>
      have hy := ho y rfl
      show (if wI y < 1048576 then _ else _) = _
      rw [wI_of (x := y) (by omega) (by omega), if_pos (by omega), co, ob]
      show some (C k p m + y, _) = some (y + C k p m, _)
      rw [Int.add_comm]
theorem m_lv1 (kk : Int → Int → Int → am_M → am_Rs) {N : am_M} {cn wh : Int} {C : Nat → Int → Int → Int} (P : MlI N cn wh C) {f : Nat → Int} {V : Int → Option Int} {k : Nat} (hk : k < 20) (hV : ∀ q : Nat, (q : Int) ≤ N 11 0 → f (13 * (k + 1) + q) = enc 1048576 (V q)) (hO : ∀ q, okO (V q) 38000) {p m : Int} (hp : 0 ≤ p ∧ p ≤ N 11 0) (hm : m = -1 ∨ m = 0 ∨ m = 1) (n : Nat) {a : Option Int} (ha : okO a 40000) : XL_X9_layValues_53_12 kk (n + 1) k p (enc 1048576 a) m (am_row N 64 f) = XL_X9_layValues_53_12 kk n k p (enc 1048576 (omin a (byO (mv_ N) C (N 14 0) V k p m))) (m + 1) (am_row N 64 f) := by
  have hb : okO (byO (mv_ N) C (N 14 0) V k p m) 40000 := byO_ok hO P.2.2.2.2
  rw [XL_X9_layValues_53_12, XB_X9_layValues_53_12, wI_of (x := m) (by omega) (by omega), if_pos (by omega), m_valBy P hk hV hO hp hm, ob]
  dsimp +instances only
  rw [wIm ha, wIm hb, ← enc_min ha hb (by decide)]
  split <;> rfl
theorem m_lv {N : am_M} {cn wh : Int} {C : Nat → Int → Int → Int} (P : MlI N cn wh C) (kk : Int → Int → Int → am_M → am_Rs) {f : Nat → Int} {V : Int → Option Int} {k : Nat} (hk : k < 20) (hV : ∀ q : Nat, (q : Int) ≤ N 11 0 → f (13 * (k + 1) + q) = enc 1048576 (V q)) (hO : ∀ q, okO (V q) 38000) {p : Int} (hp : 0 ≤ p ∧ p ≤ N 11 0) : XL_X9_layValues_53_12 kk 1000 k p 1048576 (-1) (am_row N 64 f) = kk k p (enc 1048576 (stO (mv_ N) C (N 14 0) V k p)) (am_row N 64 f) := by
  have hb : ∀ m, okO (byO (mv_ N) C (N 14 0) V k p m) 40000 := fun m => byO_ok hO P.2.2.2.2
  have e1 : XL_X9_layValues_53_12 kk 1000 k p 1048576 (-1) (am_row N 64 f) = _ := m_lv1 kk P hk hV hO hp (m := -1) (Or.inl rfl) 999 (a := none) (okO.n _)
  have e2 : ∀ a, okO a 40000 → XL_X9_layValues_53_12 kk 999 k p (enc 1048576 a) (-1 + 1) (am_row N 64 f) = _ := fun a ha => m_lv1 kk P hk hV hO hp (m := -1 + 1) (Or.inr (Or.inl rfl)) 998 ha
  have e3 : ∀ a, okO a 40000 → XL_X9_layValues_53_12 kk 998 k p (enc 1048576 a) (-1 + 1 + 1) (am_row N 64 f) = _ := fun a ha => m_lv1 kk P hk hV hO hp (m := -1 + 1 + 1) (Or.inr (Or.inr rfl)) 997 ha
  rw [e1, e2 _ ((okO.n _).min (hb _)), e3 _ (((okO.n _).min (hb _)).min (hb _)), XL_X9_layValues_53_12, XB_X9_layValues_53_12, if_neg (show ¬ wI (-1 + 1 + 1 + 1) < 2 by decide)]
  rfl
theorem lp_v1 (kk : Int → am_M → am_Rs) {N : am_M} (I : Ic N) {g : Int → Option Int} {goal : Int} {n : Nat} (hn : n ≤ 20) (hg : ∀ p : Nat, (p : Int) ≤ N 11 0 → enc 1048576 (g p) = if goal = -1 ∨ goal = p then 0 else 1048576) (hgo : -1 ≤ goal ∧ goal ≤ 12) : ∀ (e n1 i : Nat) (f : Nat → Int), (i : Int) + e = N 11 0 + 1 → e < n1 → (∀ p : Nat, p < i → f (13 * n + p) = enc 1048576 (g p)) → ∃ f', XL_X9_layValues_53_1 kk n1 n goal i (am_row N 64 f) = kk n (am_row N 64 f') ∧ ∀ p : Nat, (p : Int) ≤ N 11 0 → f' (13 * n + p) = enc 1048576 (g p) := by
  intro e
  induction e with
  | zero =>
    intro n1 i f hi hn1 hf
    have rs := I.rs
    obtain ⟨n1, rfl⟩ : ∃ m, n1 = m + 1 := ⟨n1 - 1, by omega⟩
    refine ⟨f, ?_, fun p hp => hf p (by omega)⟩
    rw [XL_X9_layValues_53_1, XB_X9_layValues_53_1, show (am_row N 64 f) 53 1 = N 11 0 from I.es, wI_of (x := (i : Int)) (by omega) (by omega), wI_of (x := N 11 0) (by omega) (by omega), if_pos (by omega)]
  | succ e ih =>
    intro n1 i f hi hn1 hf
    have rs := I.rs
    obtain ⟨n1, rfl⟩ : ∃ m, n1 = m + 1 := ⟨n1 - 1, by omega⟩
    have hgi := hg i (by omega)
    obtain ⟨f', a1, a2⟩ := ih n1 (i + 1) (fun j => if j = 13 * n + i then enc 1048576 (g i) else f j) (by push_cast; omega) (by omega) (fun p hp => by
      by_cases c : p = i
      · subst c; rw [if_pos rfl]
      · rw [if_neg (by omega)]; exact hf p (by omega))
    refine ⟨f', ?_, a2⟩
    have e1 : ∀ _ : Unit, wI (13 * (n : Int) + i) = ((13 * n + i : Nat) : Int) := fun _ => by rw [wI_of (by omega) (by omega)]; push_cast; omega
    rw [XL_X9_layValues_53_1, XB_X9_layValues_53_1, show (am_row N 64 f) 53 1 = N 11 0 from I.es, wI_of (x := (i : Int)) (by omega) (by omega), wI_of (x := N 11 0) (by omega) (by omega), if_neg (by omega), wI_of (x := goal) (by omega) (by omega)]
    simp only [e1 (), Int.toNat_natCast, up_row, row_row, row_s]
    rw [if_pos (show 0 ≤ ((13 * n + i : Nat) : Int) ∧ ((13 * n + i : Nat) : Int) < 273 by omega), if_pos (show 0 ≤ ((13 * n + i : Nat) : Int) ∧ ((13 * n + i : Nat) : Int) < 273 by omega)]
    by_cases c1 : goal = -1
    · rw [if_pos (Or.inl c1)] at hgi
      rw [hgi] at a1
      rw [if_pos (by omega)]
      exact a1
    · rw [if_neg (show ¬ goal < 0 by omega)]
      by_cases c2 : goal = i
      · rw [if_pos (Or.inr c2)] at hgi
        rw [hgi] at a1
        rw [if_pos c2.symm]
        exact a1
      · rw [if_neg (by omega)] at hgi
        rw [hgi] at a1
        rw [if_neg (fun h => c2 h.symm)]
        exact a1
theorem lp_v10 (kk : Int → am_M → am_Rs) {N : am_M} {cn wh : Int} {C : Nat → Int → Int → Int} (P : MlI N cn wh C) {U : Nat → Int → Option Int} {n k : Nat} (hn : n ≤ 20) (hk : k < n) (hU : ∀ p, U k p = stO (mv_ N) C (N 14 0) (U (k + 1)) k p) (hO : ∀ q, okO (U (k + 1) q) 38000) : ∀ (e n1 i : Nat) (f : Nat → Int), (i : Int) + e = N 11 0 + 1 → e < n1 → Tb 1048576 (N 11 0) U n (k + 1) f → (∀ p : Nat, p < i → f (13 * k + p) = enc 1048576 (U k p)) → ∃ f', XL_X9_layValues_53_10 kk n1 k i (am_row N 64 f) = kk k (am_row N 64 f') ∧ Tb 1048576 (N 11 0) U n k f' := by
  intro e
  induction e with
  | zero =>
    intro n1 i f hi hn1 hT hf
    have rs := P.1.rs
    obtain ⟨n1, rfl⟩ : ∃ m, n1 = m + 1 := ⟨n1 - 1, by omega⟩
    refine ⟨f, ?_, fun k' h1 h2 p hp => ?_⟩
    · rw [XL_X9_layValues_53_10, XB_X9_layValues_53_10, show (am_row N 64 f) 53 1 = N 11 0 from P.1.es, wI_of (x := (i : Int)) (by omega) (by omega), wI_of (x := N 11 0) (by omega) (by omega), if_pos (by omega)]
    · rcases Nat.lt_or_eq_of_le h1 with h | h
      · exact hT k' h h2 p hp
      · subst h; exact hf p (by omega)
  | succ e ih =>
    intro n1 i f hi hn1 hT hf
    have rs := P.1.rs
    obtain ⟨n1, rfl⟩ : ∃ m, n1 = m + 1 := ⟨n1 - 1, by omega⟩
    obtain ⟨f', a1, a2⟩ := ih n1 (i + 1) (fun j => if j = 13 * k + i then enc 1048576 (U k i) else f j) (by push_cast; omega) (by omega) (fun k' h1 h2 p hp => by show (if 13 * k' + p = 13 * k + i then _ else _) = _; rw [if_neg (by omega)]; exact hT k' h1 h2 p hp) (fun p hp => by
      by_cases c : p = i
      · subst c; rw [if_pos rfl]
      · rw [if_neg (by omega)]; exact hf p (by omega))
    refine ⟨f', ?_, a2⟩
    have e1 : ∀ _ : Unit, wI (13 * (k : Int) + i) = ((13 * k + i : Nat) : Int) := fun _ => by rw [wI_of (by omega) (by omega)]; push_cast; omega
    rw [XL_X9_layValues_53_10, XB_X9_layValues_53_10, show (am_row N 64 f) 53 1 = N 11 0 from P.1.es, wI_of (x := (i : Int)) (by omega) (by omega), wI_of (x := N 11 0) (by omega) (by omega), if_neg (by omega), m_lv P _ (V := U (k + 1)) (by omega) (fun q hq => hT (k + 1) (by omega) (by omega) q hq) hO (by omega), XB_X9_layValues_53_17, e1 (), if_pos (by omega), Int.toNat_natCast, up_row, row_row, row_s, ← hU]
    exact a1
theorem lp_v8 (kk : am_M → am_Rs) {N : am_M} {cn wh : Int} {C : Nat → Int → Int → Int} (P : MlI N cn wh C) {U : Nat → Int → Option Int} {n : Nat} (hn : n ≤ 20) (hU : ∀ k, k < n → ∀ p, U k p = stO (mv_ N) C (N 14 0) (U (k + 1)) k p) (hO : ∀ k, 1 ≤ k → ∀ q, okO (U k q) 38000) : ∀ (e n1 : Nat) (f : Nat → Int), e ≤ n → e < n1 → Tb 1048576 (N 11 0) U n e f → ∃ f', XL_X9_layValues_53_8 kk n1 ((e : Int) - 1) (am_row N 64 f) = kk (am_row N 64 f') ∧ Tb 1048576 (N 11 0) U n 0 f' := by
  intro e
  induction e with
  | zero =>
    intro n1 f he hn1 hT
    obtain ⟨n1, rfl⟩ : ∃ m, n1 = m + 1 := ⟨n1 - 1, by omega⟩
    refine ⟨f, ?_, hT⟩
    rw [XL_X9_layValues_53_8, XB_X9_layValues_53_8, if_pos (by decide)]
  | succ e ih =>
    intro n1 f he hn1 hT
    have rs := P.1.rs
    obtain ⟨n1, rfl⟩ : ∃ m, n1 = m + 1 := ⟨n1 - 1, by omega⟩
    obtain ⟨f1, a1, a2⟩ := lp_v10 (XB_X9_layValues_53_18 (XL_X9_layValues_53_8 kk n1)) P (U := U) (n := n) (k := e) hn (by omega) (hU e (by omega)) (hO (e + 1) (by omega)) (N 11 0 + 1).toNat 1000 0 f (by omega) (by omega) hT (fun p hp => by omega)
    obtain ⟨f', b1, b2⟩ := ih n1 f1 (by omega) (by omega) a2
    refine ⟨f', ?_, b2⟩
    rw [show ((0 : Nat) : Int) = 0 from rfl] at a1
    rw [XL_X9_layValues_53_8, XB_X9_layValues_53_8, show ((e + 1 : Nat) : Int) - 1 = (e : Int) by omega, wI_of (x := (e : Int)) (by omega) (by omega), if_neg (by omega), a1, XB_X9_layValues_53_18]
    exact b1
theorem sp_values {N : am_M} {cn wh : Int} {C : Nat → Int → Int → Int} (P : MlI N cn wh C) {n : Nat} (hn : n ≤ 20) {goal : Int} (hgo : -1 ≤ goal ∧ goal ≤ 12) : ∃ f, X_X9_layValues_53 n goal N = some (0, am_row N 64 f) ∧ Tb 1048576 (N 11 0) (uO (mv_ N) C (N 14 0) goal n) n 0 f := by
  have rs := P.1.rs
  have hC := P.2.2.2.2
  obtain ⟨f1, a1, a2⟩ := lp_v1 (XB_X9_layValues_53_7 (XL_X9_layValues_53_8 XB_X9_layValues_53_19 1000)) P.1 (g := gO goal) (goal := goal) hn (fun p _ => by unfold gO; split <;> rfl) hgo ((N 11 0 + 1).toNat) 1000 0 (N 64) (by omega) (by omega) (fun p hp => by omega)
  obtain ⟨f2, b1, b2⟩ := lp_v8 XB_X9_layValues_53_19 P (U := uO (mv_ N) C (N 14 0) goal n) hn (fun k hk p => uO_s hk p) (fun k hk q => uO_ok1 hn hC hk q) n 1000 f1 (Nat.le_refl _) (by omega) (fun k h1 h2 p hp => by
    have : k = n := by omega
    subst this
    rw [a2 p hp]
    unfold uO
    rw [Nat.sub_self]; rfl)
  refine ⟨f2, ?_, b2⟩
  rw [show ((0 : Nat) : Int) = 0 from rfl, row_self] at a1
  rw [X_X9_layValues_53, XB_X9_layValues_53_e, a1, XB_X9_layValues_53_7, b1]
  rfl
theorem m_fm1 (k5 : Int → Int → Int → Int → Int → am_M → am_Rs) {M : am_M} {cn wh : Int} {C : Nat → Int → Int → Int} (P : MlI M cn wh C) {V : Int → Option Int} {k : Nat} (hk : k < 20) (hV : ∀ q : Nat, (q : Int) ≤ M 11 0 → M 64 (13 * (k + 1) + q) = enc 1048576 (V q)) (hO : ∀ q, okO (V q) 38000) {r n : Int} {p : Nat} {m : Int} (hp : (p : Int) ≤ M 11 0) (hm : m = -1 ∨ m = 0 ∨ m = 1) (n1 : Nat) {w : Option Int} (hw : okO w 40000) (hW : M 64 (13 * k + p) = enc 1048576 w) : XL_X9_toRow_53_3 k5 (n1 + 1) r n p k m M = if byO (mv_ M) C (M 14 0) V k p m = w then k5 r n p k m M else XL_X9_toRow_53_3 k5 n1 r n p k (m + 1) M := by
  have rs := P.1.rs
  have hb : okO (byO (mv_ M) C (M 14 0) V k p m) 40000 := byO_ok hO P.2.2.2.2
  have e := m_valBy P (f := M 64) hk hV hO (p := (p : Int)) (by omega) hm
  rw [row_self] at e
  have e1 : ∀ _ : Unit, wI (13 * (k : Int) + p) = ((13 * k + p : Nat) : Int) := fun _ => by rw [wI_of (by omega) (by omega)]; push_cast; omega
  rw [XL_X9_toRow_53_3, XB_X9_toRow_53_3, e, ob]
  dsimp +instances only
  rw [e1 (), if_pos (by omega), Int.toNat_natCast, hW, wIm hb, wIm hw]
  by_cases c : byO (mv_ M) C (M 14 0) V k p m = w
  · rw [if_pos ((enc_inj hb hw (by decide)).mpr c), if_pos c]
  · rw [if_neg (fun h => c ((enc_inj hb hw (by decide)).mp h)), if_neg c]
theorem m_fm (k5 : Int → Int → Int → Int → Int → am_M → am_Rs) {M : am_M} {cn wh : Int} {C : Nat → Int → Int → Int} (P : MlI M cn wh C) {n : Nat} (hn : n ≤ 20) {goal : Int} (hT : Tb 1048576 (M 11 0) (uO (mv_ M) C (M 14 0) goal n) n 0 (M 64)) {k : Nat} (hk : k < n) {r v : Int} {p : Nat} (hp : (p : Int) ≤ M 11 0) : XL_X9_toRow_53_3 k5 1000 r v p k (-1) M = k5 r v p k (fmU (mv_ M) C (M 14 0) goal n k p) M := by
  have hC := P.2.2.2.2
  have hV : ∀ q : Nat, (q : Int) ≤ M 11 0 → M 64 (13 * (k + 1) + q) = enc 1048576 (uO (mv_ M) C (M 14 0) goal n (k + 1) q) := fun q hq => hT (k + 1) (by omega) (by omega) q hq
  have hO : ∀ q, okO (uO (mv_ M) C (M 14 0) goal n (k + 1) q) 38000 := fun q => uO_ok1 hn hC (by omega) q
  have hw := uO_ok (mv := mv_ M) (d := M 14 0) (goal := goal) hn hC k p
  have hW := hT k (by omega) (by omega) p hp
  have e1 : XL_X9_toRow_53_3 k5 1000 r v p k (-1) M = _ := m_fm1 k5 P (by omega) hV hO hp (m := -1) (Or.inl rfl) 999 hw hW
  have e2 : XL_X9_toRow_53_3 k5 999 r v p k (-1 + 1) M = _ := m_fm1 k5 P (by omega) hV hO hp (m := -1 + 1) (Or.inr (Or.inl rfl)) 998 hw hW
  have e3 : XL_X9_toRow_53_3 k5 998 r v p k (-1 + 1 + 1) M = _ := m_fm1 k5 P (by omega) hV hO hp (m := -1 + 1 + 1) (Or.inr (Or.inr rfl)) 997 hw hW
  have h1 := stO_one (mv := mv_ M) (C := C) (d := M 14 0) (V := uO (mv_ M) C (M 14 0) goal n (k + 1)) (k := k) (p := p)
  rw [← uO_s hk] at h1
  rw [e1, e2, e3]
  unfold fmU fmO
  by_cases c1 : byO (mv_ M) C (M 14 0) (uO (mv_ M) C (M 14 0) goal n (k + 1)) k p (-1) = uO (mv_ M) C (M 14 0) goal n k p
  · rw [if_pos c1, if_pos c1]
  · rw [if_neg c1, if_neg c1]
    by_cases c2 : byO (mv_ M) C (M 14 0) (uO (mv_ M) C (M 14 0) goal n (k + 1)) k p 0 = uO (mv_ M) C (M 14 0) goal n k p
    · rw [if_pos (show byO (mv_ M) C (M 14 0) (uO (mv_ M) C (M 14 0) goal n (k + 1)) k p (-1 + 1) = uO (mv_ M) C (M 14 0) goal n k p from c2), if_pos c2]; rfl
    · rw [if_neg (show ¬ byO (mv_ M) C (M 14 0) (uO (mv_ M) C (M 14 0) goal n (k + 1)) k p (-1 + 1) = uO (mv_ M) C (M 14 0) goal n k p from c2), if_neg c2]
      rcases h1 with h1 | h1 | h1
      · exact absurd h1 c1
      · exact absurd h1 c2
      · rw [if_pos (show byO (mv_ M) C (M 14 0) (uO (mv_ M) C (M 14 0) goal n (k + 1)) k p (-1 + 1 + 1) = uO (mv_ M) C (M 14 0) goal n k p from h1), if_pos h1]; rfl
theorem lp_toRow (k6 : am_M → am_Rs) {M : am_M} {cn wh : Int} {C : Nat → Int → Int → Int} (P : MlI M cn wh C) {n : Nat} (hn : n ≤ 20) {goal : Int} (hT : Tb 1048576 (M 11 0) (uO (mv_ M) C (M 14 0) goal n) n 0 (M 64)) {r : Nat} (hr : r < 6) : ∀ (e n1 k : Nat) (p x : Int) (h : Nat → Int), k + e = n → e < n1 → (0 ≤ p ∧ p ≤ M 11 0) → uO (mv_ M) C (M 14 0) goal n k p = some x → XL_X9_toRow_53_1 k6 n1 r n p k (am_row M 58 h) = k6 (am_row M 58 fun j => if 40 * r + k ≤ j ∧ j < 40 * r + n then ptO (mv_ M) C (M 14 0) goal n e k p (j - 40 * r) else h j) := by
  intro e
  induction e with
  | zero =>
    intro n1 k p x h hk hn1 hp hx
    obtain ⟨n1, rfl⟩ : ∃ m, n1 = m + 1 := ⟨n1 - 1, by omega⟩
    rw [XL_X9_toRow_53_1, XB_X9_toRow_53_1, wI_of (x := (k : Int)) (by omega) (by omega), wI_of (x := (n : Int)) (by omega) (by omega), if_neg (by omega)]
    refine congrArg (fun F => k6 (am_row M 58 F)) (funext fun j => ?_)
    rw [if_neg (by omega)]
  | succ e ih =>
    intro n1 k p x h hk hn1 hp hx
    have rs := P.1.rs
    obtain ⟨n1, rfl⟩ : ∃ m, n1 = m + 1 := ⟨n1 - 1, by omega⟩
    obtain ⟨q, rfl⟩ := Int.eq_ofNat_of_zero_le hp.1
    have P' : MlI (am_row M 58 h) cn wh C := P.k (Kc.row (by decide)) rfl rfl
    have fm : XL_X9_toRow_53_3 (XB_X9_toRow_53_5 (XL_X9_toRow_53_1 k6 n1)) 1000 r n q k (-1) (am_row M 58 h) = XB_X9_toRow_53_5 (XL_X9_toRow_53_1 k6 n1) r n q k (fmU (mv_ M) C (M 14 0) goal n k q) (am_row M 58 h) := m_fm (XB_X9_toRow_53_5 (XL_X9_toRow_53_1 k6 n1)) P' hn hT (by omega) hp.2
    have hm := fmU_m (mv_ M) C (M 14 0) goal n k q
    obtain ⟨hs1, y, hy⟩ := fmU_s (show k < n by omega) hx
    have hb := mv_in (M := M) hm hp hs1
    generalize hF : fmU (mv_ M) C (M 14 0) goal n k q = F at fm hm hs1 hy hb
    have e1 : ∀ _ : Unit, wI (40 * (r : Int) + k) = ((40 * r + k : Nat) : Int) := fun _ => by rw [wI_of (by omega) (by omega)]; push_cast; omega
    rw [XL_X9_toRow_53_1, XB_X9_toRow_53_1, wI_of (x := (k : Int)) (by omega) (by omega), wI_of (x := (n : Int)) (by omega) (by omega), if_pos (by omega), fm, XB_X9_toRow_53_5, e1 (), if_pos (by omega), Int.toNat_natCast, up_row, row_row, row_s, ← Int.natCast_succ, ih n1 (k + 1) ((q : Int) + F) y _ (by omega) (by omega) hb hy]
    refine congrArg (fun F => k6 (am_row M 58 F)) (funext fun j => ?_)
    by_cases c1 : j = 40 * r + k
    · subst c1
      rw [if_neg (by omega), if_pos rfl, if_pos (by omega), show 40 * r + k - 40 * r = k by omega, ptO, if_pos rfl, hF]
    · rw [if_neg c1]
      by_cases c2 : 40 * r + (k + 1) ≤ j ∧ j < 40 * r + n
      · rw [if_pos c2, if_pos (by omega), ptO, if_neg (by omega), hF]
      · rw [if_neg c2, if_neg (by omega)]
theorem sp_toRow {M : am_M} {cn wh : Int} {C : Nat → Int → Int → Int} (P : MlI M cn wh C) {n : Nat} (hn : n ≤ 20) {goal : Int} (hT : Tb 1048576 (M 11 0) (uO (mv_ M) C (M 14 0) goal n) n 0 (M 64)) {r : Nat} (hr : r < 6) {x : Int} (hx : uO (mv_ M) C (M 14 0) goal n 0 (M 14 1) = some x) : ∃ h, X_X9_toRow_53 r n M = some (0, am_row (am_up M 57 r n) 58 h) ∧ (∀ j, 40 * r ≤ j → j < 40 * r + n → h j = ptO (mv_ M) C (M 14 0) goal n n 0 (M 14 1) (j - 40 * r)) ∧ ∀ j, (j < 40 * r ∨ 40 * r + 40 ≤ j) → h j = M 58 j := by
  have mk := sp_makeRow (M := M) (r := (r : Int)) (n := (n : Int)) (by omega)
  rw [Int.toNat_natCast] at mk
  obtain ⟨N, hN⟩ : ∃ N, N = am_up M 57 r (n : Int) := ⟨_, rfl⟩
  rw [← hN] at mk
  have PN : MlI N cn wh C := by rw [hN]; exact P.k (Kc.up (by decide)) rfl rfl
  have f : ∀ c, c ≠ 57 → N c = M c := fun c h => by rw [hN, up_a h]
  have km : mv_ N = mv_ M := by funext b m d; unfold mv_; rw [f 11 (by decide), f 12 (by decide)]
  have l := lp_toRow XB_X9_toRow_53_6 PN hn (goal := goal) (r := r) (by rw [km, f 11 (by decide), f 14 (by decide), f 64 (by decide)]; exact hT) hr n 1000 0 (M 14 1) x (fun j => if 40 * (r : Int) ≤ (j : Int) ∧ (j : Int) < 40 * (r : Int) + 40 then 0 else M 58 j) (by omega) (by omega) (by rw [f 11 (by decide)]; exact P.1.r1) (by rw [km, f 14 (by decide)]; exact hx)
  rw [km, f 14 (by decide), show ((0 : Nat) : Int) = 0 from rfl] at l
  refine ⟨fun j => if 40 * r + 0 ≤ j ∧ j < 40 * r + n then ptO (mv_ M) C (M 14 0) goal n n 0 (M 14 1) (j - 40 * r) else if 40 * (r : Int) ≤ (j : Int) ∧ (j : Int) < 40 * (r : Int) + 40 then 0 else M 58 j, ?_, fun j h1 h2 => ?_, fun j h1 => ?_⟩
  · rw [X_X9_toRow_53, XB_X9_toRow_53_e, mk, ob]
    dsimp only
    rw [P.1.d1, l, XB_X9_toRow_53_6, ← hN]
  · exact if_pos (by omega)
  · show (if _ then _ else if _ then _ else _) = _
    rw [if_neg (by omega), if_neg (by omega)]
end
section
/-! The politest, the least, the most. -/
/-- memory that agrees but for rows and scratch -/
noncomputable def Kr (M M' : am_M) : Prop := (∀ a, (a ≤ 1 ∨ (4 ≤ a ∧ a ≤ 6) ∨ (9 ≤ a ∧ a ≤ 35) ∨ a = 52 ∨ a = 55 ∨ a = 56 ∨ (59 ≤ a ∧ a ≤ 61)) → M' a = M a) ∧ (∀ j, (j = 1 ∨ (8 ≤ j ∧ j ≤ 11)) → M' 53 j = M 53 j) ∧ ∀ j, j < 484 → M' 54 j = M 54 j
theorem Kr.tr {M M1 M2 : am_M} (h : Kr M M1) (g : Kr M1 M2) : Kr M M2 := ⟨fun a q => (g.1 a q).trans (h.1 a q), fun j q => (g.2.1 j q).trans (h.2.1 j q), fun j q => (g.2.2 j q).trans (h.2.2 j q)⟩
theorem Kp.r {M M' : am_M} (h : Kp M M') : Kr M M' := ⟨fun a q => h.1 a (by omega), h.2.1, h.2.2⟩
theorem Kr.row {M : am_M} {a : Nat} {f : Nat → Int} (h : a = 2 ∨ a = 3 ∨ a = 57 ∨ a = 58) : Kr M (am_row M a f) := ⟨fun b q => row_a (by omega), fun j _ => by rw [row_a (by omega)], fun j _ => by rw [row_a (by omega)]⟩
theorem Kr.up {M : am_M} {a k : Nat} {x : Int} (h : a = 2 ∨ a = 3 ∨ a = 57 ∨ a = 58) : Kr M (am_up M a k x) := ⟨fun b q => up_a (by omega), fun j _ => by rw [up_a (by omega)], fun j _ => by rw [up_a (by omega)]⟩
theorem Kr.c {M M' : am_M} (h : Kr M M') : Kc M M' := ⟨fun a q => h.1 a (by omega), h.2.1 1 (by decide), fun j q => h.2.2 j (by omega)⟩
theorem inv_row2 {M M2 : am_M} (I : Inv M) {r n : Nat} (hr : r < 6) (hn : n ≤ 40) (P : Nat → Int) (hP : ∀ j, iR (P j)) (k : Kr M M2) (k2 : ∀ q, M2 2 q = if q = r then (n : Int) else M 2 q) (k3 : ∀ j, M2 3 j = if 40 * r ≤ j ∧ j < 40 * r + n then P (j - 40 * r) else M 3 j) (k57 : ∀ q, M2 57 q = if q = r then (n : Int) else M 57 q) (k58 : ∀ j, 40 * r ≤ j → j < 40 * r + n → M2 58 j = P (j - 40 * r)) (k58' : ∀ j, (j < 40 * r ∨ 40 * r + 40 ≤ j) → M2 58 j = M 58 j) : Inv M2 := by
  obtain ⟨e57, h2, h3, h4⟩ := I.2.1
  obtain ⟨M3, hM3⟩ : ∃ M3 : am_M, M3 = fun c => if c = 2 then M2 2 else if c = 3 then M2 3 else if c = 57 then M2 57 else if c = 58 then M2 58 else M c := ⟨_, rfl⟩
  have z2 : M3 2 = M2 2 := by rw [hM3]; rfl
  have z3 : M3 3 = M2 3 := by rw [hM3]; rfl
  have z57 : M3 57 = M2 57 := by rw [hM3]; rfl
  have z58 : M3 58 = M2 58 := by rw [hM3]; rfl
  have zo : ∀ c, c ≠ 2 → c ≠ 3 → c ≠ 57 → c ≠ 58 → M3 c = M c := fun c q1 q2 q3 q4 => by rw [hM3]; dsimp only; rw [if_neg q1, if_neg q2, if_neg q3, if_neg q4]
  have I3 : Inv M3 := by
    refine inv_rows I zo ?_
    rw [z2, z3, z57, z58]
    refine ⟨funext fun q => ?_, fun q => ?_, fun j => ?_, fun q i hq hi => ?_⟩
    · rw [k57, k2, e57]
    · rw [k2]
      split
      · omega
      · exact h2 q
    · rw [k3]
      split
      · exact hP _
      · exact h3 j
    · rw [k2] at hi
      by_cases c : q = r
      · subst c
        rw [if_pos rfl] at hi
        rw [k58 _ (by omega) (by omega), k3, if_pos (by omega)]
      · rw [if_neg c] at hi
        have := h2 q
        rw [k58' _ (by omega), k3, if_neg (by omega)]
        exact h4 q i hq hi
  refine Kp.inv I3 ⟨fun a ha => ?_, fun j hj => ?_, fun j hj => ?_⟩
  · by_cases c2 : a = 2
    · subst c2; exact z2.symm
    · by_cases c3 : a = 3
      · subst c3; exact z3.symm
      · by_cases c57 : a = 57
        · subst c57; exact z57.symm
        · by_cases c58 : a = 58
          · subst c58; exact z58.symm
          · rw [zo a c2 c3 c57 c58]; exact k.1 a (by omega)
  · rw [zo 53 (by decide) (by decide) (by decide) (by decide)]; exact k.2.1 j hj
  · rw [zo 54 (by decide) (by decide) (by decide) (by decide)]; exact k.2.2 j hj
/-- both rows laid alike -/
theorem inv_plan {M N2 M1 X : am_M} (I : Inv M) {n r : Nat} (hr : r < 6) (hn : n ≤ 40) {T : Nat → Int} (hT : ∀ j, iR (T j)) (kN2 : Kp M N2) (hM1 : M1 = am_row (am_up N2 2 r (n : Int)) 3 fun j => if 40 * r ≤ j ∧ j < 40 * r + n then T (j - 40 * r) else M 3 j) (hX : Kp M1 X) {h : Nat → Int} (w2 : ∀ j, 40 * r ≤ j → j < 40 * r + n → h j = T (j - 40 * r)) (w3 : ∀ j, (j < 40 * r ∨ 40 * r + 40 ≤ j) → h j = X 58 j) : Inv (am_row (am_up X 57 r (n : Int)) 58 h) := by
  have kM1 : Kr M M1 := by rw [hM1]; exact (kN2.r.tr (Kr.up (by decide))).tr (Kr.row (by decide))
  have kE : Kr X (am_row (am_up X 57 r (n : Int)) 58 h) := (Kr.up (by decide)).tr (Kr.row (by decide))
  refine inv_row2 (n := n) I hr hn T hT ((kM1.tr hX.r).tr kE) (fun q => ?_) (fun j => ?_) (fun q => ?_) (fun j j1 j2 => ?_) (fun j j1 => ?_)
  · rw [row_a (by decide), up_a (by decide), hX.1 2 (by decide), hM1, row_a (by decide)]
    by_cases c : q = r
    · subst c; rw [up_s, if_pos rfl]
    · rw [up_j c, if_neg c, kN2.1 2 (by decide)]
  · rw [row_a (by decide), up_a (by decide), hX.1 3 (by decide), hM1, row_s]
  · rw [row_a (by decide)]
    by_cases c : q = r
    · subst c; rw [up_s, if_pos rfl]
    · rw [up_j c, if_neg c, hX.1 57 (by decide), hM1, row_a (by decide), up_a (by decide), kN2.1 57 (by decide)]
  · rw [row_s]; exact w2 j j1 j2
  · rw [row_s, w3 j j1, hX.1 58 (by decide), hM1, row_a (by decide), up_a (by decide), kN2.1 58 (by decide)]
theorem lp_fill37 (k : am_M → am_Rs) (N : am_M) (v : Int) : ∀ (e n i : Nat) (f : Nat → Int), i + e = 13 → e < n → XL_J7_fill_53178_37_1 k n v i 13 (am_row N 37 f) = k (am_row N 37 fun j => if i ≤ j ∧ j < 13 then v else f j) := by
  intro e
  induction e with
  | zero =>
    intro n i f hi hn
    obtain ⟨n, rfl⟩ : ∃ m, n = m + 1 := ⟨n - 1, by omega⟩
    rw [XL_J7_fill_53178_37_1, XB_J7_fill_53178_37_1, wI_of (x := (i : Int)) (by omega) (by omega), if_neg (show ¬ (i : Int) < wI 13 by rw [show wI 13 = 13 from rfl]; omega)]
    refine congrArg (fun F => k (am_row N 37 F)) (funext fun j => ?_)
    rw [if_neg (by omega)]
  | succ e ih =>
    intro n i f hi hn
    obtain ⟨n, rfl⟩ : ∃ m, n = m + 1 := ⟨n - 1, by omega⟩
    rw [XL_J7_fill_53178_37_1, XB_J7_fill_53178_37_1, wI_of (x := (i : Int)) (by omega) (by omega), if_pos (show (i : Int) < wI 13 by rw [show wI 13 = 13 from rfl]; omega), if_pos (by omega), Int.toNat_natCast, up_row, row_row, ← Int.natCast_succ, ih n (i + 1) _ (by omega) (by omega)]
    refine congrArg (fun F => k (am_row N 37 F)) (funext fun j => ?_)
    rw [row_s]
    by_cases c : j = i
    · subst c; rw [if_neg (by omega), if_pos rfl, if_pos (by omega)]
    · by_cases c2 : i + 1 ≤ j ∧ j < 13
      · rw [if_pos c2, if_pos (by omega)]
      · rw [if_neg c2, if_neg c, if_neg (by omega)]
theorem sp_tollNo (M : am_M) : ∃ f, X_X4_tollNothing_36 M = some (0, am_row M 37 f) ∧ ∀ p : Nat, p < 13 → f p = 0 := by
  have := lp_fill37 XB_J7_fill_53178_37_3 M 0 13 1000 0 (M 37) (by omega) (by omega)
  rw [row_self, show ((0 : Nat) : Int) = 0 from rfl] at this
  refine ⟨fun j => if 0 ≤ j ∧ j < 13 then 0 else M 37 j, ?_, fun p hp => if_pos (by omega)⟩
  rw [X_X4_tollNothing_36, X_J7_fill_53178_37, XB_J7_fill_53178_37_e, this]; rfl
theorem cC_r {br : Int} (hb : br = 0 ∨ br = 1) (M : am_M) {D : Int → Int} (hD : ∀ b, -1944 ≤ D b ∧ D b ≤ 1944) (d : Int) (k : Nat) (p m : Int) : -2000 ≤ cC br (mv_ M) D d k p m ∧ cC br (mv_ M) D d k p m ≤ 2000 := by
  have h1 := mv_r M p m (d + k)
  have h2 := hD (p + m)
  unfold cC
  generalize mv_ M p m (d + k) = x at h1 ⊢
  generalize D (p + m) = y at h2 ⊢
  rcases hb with rfl | rfl
  · rw [if_pos rfl]; split <;> omega
  · rw [if_neg (by decide)]; split <;> omega
/-- the table's first row tells what is answered -/
theorem m_at {s : Int} {U : Nat → Int → Option Int} {n : Nat} {f : Nat → Int} {F b : Int} (hT : Tb F s U n 0 f) (hb : 0 ≤ b ∧ b ≤ s) : f b.toNat = enc F (U 0 b) := by
  obtain ⟨q, rfl⟩ := Int.eq_ofNat_of_zero_le hb.1
  have := hT 0 (Nat.le_refl _) (Nat.zero_le _) q hb.2
  rw [Nat.mul_zero, Nat.zero_add] at this
  rw [Int.toNat_natCast]; exact this
theorem iR_p {x : Int} (h : -1 ≤ x ∧ x ≤ 1) : iR x := by unfold iR; omega
theorem eq_polite {M : am_M} (I : Inv M) {p n r : Int} (hp : iR p) (hn : iR n) (hr : iR r) : Step (X_X8_polite_0 p n r) (X_X9_polite_53 p n r) M := gd_polite I hp hn hr fun h1 h2 h3 h4 => by
  obtain ⟨n, rfl⟩ := Int.eq_ofNat_of_zero_le h2.1
  obtain ⟨r, rfl⟩ := Int.eq_ofNat_of_zero_le h3.1
  have rs := I.rs
  have r1 := I.r1
  have hn20 : n ≤ 20 := by omega
  have hr6 : r < 6 := by omega
  obtain ⟨t, t1, t2⟩ := sp_tollNo M
  obtain ⟨C, hC⟩ : ∃ C, C = cC 1 (mv_ M) (fun _ => 0) (M 14 0) := ⟨_, rfl⟩
  have hCr : ∀ k p m, -2000 ≤ C k p m ∧ C k p m ≤ 2000 := fun k p m => by rw [hC]; exact cC_r (Or.inr rfl) M (fun _ => by decide) (M 14 0) k p m
  obtain ⟨N, hN⟩ : ∃ N, N = am_row M 37 t := ⟨_, rfl⟩
  have kN : Kp M N := by rw [hN]; exact Kp.row (by decide)
  have kN1 : Kp N (am_up N 36 6 1) := Kp.up (by decide)
  have nm : mv_ N = mv_ M := by rw [hN]; rfl
  have n14 : N 14 = M 14 := by rw [hN]; rfl
  have n11 : N 11 = M 11 := by rw [hN]; rfl
  have PN : PlI (am_up N 36 6 1) 1 (fun _ => 0) := by
    refine ⟨Kc.ic I.b.c (kN.tr kN1).b.c, up_s, Or.inr rfl, fun p hp => ?_, ?_⟩
    · rw [up_a (by decide), hN, row_s]; exact t2 p hp
    · have e : cC 1 (mv_ (am_up N 36 6 1)) (fun _ => 0) ((am_up N 36 6 1) 14 0) = C := by rw [hC, hN]; rfl
      rw [e]; exact hCr
  obtain ⟨f, s1, s2⟩ := sp_solve PN hn20 (goal := p) (by omega)
  rw [nm, n14, n11, ← hC] at s2
  obtain ⟨N2, hN2⟩ : ∃ N2, N2 = am_row (am_up N 36 6 1) 38 f := ⟨_, rfl⟩
  rw [← hN2] at s1
  have kN2 : Kp M N2 := by rw [hN2]; exact (kN.tr kN1).tr (Kp.row (by decide))
  have n2 : ∀ c, c ≠ 36 → c ≠ 37 → c ≠ 38 → N2 c = M c := fun c q1 q2 q3 => by rw [hN2, row_a q3, up_a q1, hN, row_a q2]
  have n2m : mv_ N2 = mv_ M := by funext b m d; unfold mv_; rw [n2 11 (by decide) (by decide) (by decide), n2 12 (by decide) (by decide) (by decide)]
  have f38 : N2 38 = f := by rw [hN2, row_s]
  have cf : X_X4_costFrom_36 0 (M 14 1) N2 = some (enc 1000000 (uO (mv_ M) C (M 14 0) p n 0 (M 14 1)), N2) := by
    obtain ⟨x, x1, x2⟩ := c_from (M := N2) (k := 0) (by omega) (q := M 14 1) (by omega)
    obtain ⟨q, hq⟩ := Int.eq_ofNat_of_zero_le r1.1
    have := x2 q (by omega) hq
    rw [f38, s2 0 (by omega) (by omega) q (by omega), ← hq] at this
    rw [this] at x1; exact x1
  have hO := uO_ok (mv := mv_ M) (d := M 14 0) (goal := p) hn20 hCr 0 (M 14 1)
  have c0 : X_X8_polite_0 p n r M = (if enc 1000000 (uO (mv_ M) C (M 14 0) p n 0 (M 14 1)) < 1000000 then (X_X8_layPlan_0 n r N2).bind fun z8 => some (enc 1000000 (uO (mv_ M) C (M 14 0) p n 0 (M 14 1)), z8.2) else some (-9, N2)) := by
    rw [X_X8_polite_0, sp_isPlace_11 I.g11 hp, b2_t h1, ob]
    dsimp +instances only
    rw [if_neg (by decide), sp_isPlan M hn, b2_t h2, ob]
    dsimp +instances only
    rw [if_neg (by decide), sp_isNumber_1 I.sh1 hr, b2_t h3, ob]
    dsimp +instances only
    rw [if_neg (by decide), sp_hasNoLand I.g11, b2_f h4, ob]
    dsimp +instances only
    rw [if_pos wI_0, t1, ob]
    dsimp +instances only
    rw [← hN, s1, ob]
    dsimp +instances only
    rw [n2 14 (by decide) (by decide) (by decide), cf, ob]
    dsimp +instances only
    rw [wIe hO]
  -- the reference's side over any memory that keeps the land
  have mS : ∀ N : am_M, Kr M N → ∃ g, X_X9_polite_53 p n r N = (if enc 1048576 (uO (mv_ M) C (M 14 0) p n 0 (M 14 1)) < 1048576 then (X_X9_toRow_53 r n (am_row (am_up N 53 22 0) 64 g)).bind fun z5 => some (enc 1048576 (uO (mv_ M) C (M 14 0) p n 0 (M 14 1)), z5.2) else some (-9, am_row (am_up N 53 22 0) 64 g)) ∧ MlI (am_row (am_up N 53 22 0) 64 g) 0 (N 53 23) C ∧ Tb 1048576 (M 11 0) (uO (mv_ M) C (M 14 0) p n) n 0 g := by
    intro N k
    have B : Ic N := Kc.ic I.b.c k.c
    have q11 := k.c.1 11 (by decide)
    have q12 := k.c.1 12 (by decide)
    have q14 := k.c.1 14 (by decide)
    have km : mv_ N = mv_ M := by funext b m d; unfold mv_; rw [q11, q12]
    have P : MlI (am_up N 53 22 0) 0 (N 53 23) C := by
      refine ⟨Kc.ic B (Kc.up53 (by decide)), up_s, up_j (by decide), ?_, hCr⟩
      intro M' g g1 g2 k p m hk hp hm hmv
      have B' : Ic M' := Kc.ic (Kc.ic B (Kc.up53 (by decide))) g
      have u11 := ((Kc.up53 (M := N) (k := 22) (x := 0) (by decide)).tr g).1 11 (by decide)
      have u12 := ((Kc.up53 (M := N) (k := 22) (x := 0) (by decide)).tr g).1 12 (by decide)
      have um : mv_ M' = mv_ M := by rw [← km]; funext b m d; unfold mv_; rw [u11, u12]
      have e14 : (am_up N 53 22 0) 14 0 = M 14 0 := by rw [up_a (by decide), q14]
      have em : mv_ (am_up N 53 22 0) = mv_ M := by rw [← km]; rfl
      have e11 : (am_up N 53 22 0) 11 0 = M 11 0 := by rw [up_a (by decide), q11]
      rw [em, e14] at hmv
      rw [e11] at hp
      rw [e14]
      have r0 := I.r0
      unfold mvs at hm
      rw [X_X9_costOf_53, XB_X9_costOf_53_e, g1, if_pos wI_0, km_rud B' (b := p) (m := m) (d := M 14 0 + k) (by rw [u11, q11]; exact hp) (by omega) (by omega), ob, um, hC]
      unfold mr_ cC
      rw [if_neg hmv, if_neg (show ¬ (1 : Int) = 0 by decide)]
      split <;> rw [Int.add_zero]
    obtain ⟨g, v1, v2⟩ := sp_values P hn20 (goal := p) (by omega)
    have em : mv_ (am_up N 53 22 0) = mv_ M := by rw [← km]; rfl
    rw [em, up_a (by decide), up_a (by decide), q11, q14] at v2
    refine ⟨g, ?_, P.k (Kc.row (by decide)) rfl rfl, v2⟩
    have e1 : (am_row (am_up N 53 22 0) 64 g) 54 1 = M 14 1 := by
      rw [row_a (by decide), up_a (by decide), k.2.2 1 (by decide), I.d1]
    have hO2 := wIm hO
    rw [X_X9_polite_53, sp_isPlace (by rw [k.2.1 1 (by decide), I.es]; exact rs) hp, k.2.1 1 (by decide), I.es, b2_t h1, ob]
    dsimp +instances only
    rw [if_neg (by decide), wI_R hn, sp_in N hn i0 i20, b2_t h2, ob]
    dsimp +instances only
    rw [if_neg (by decide), sp_isRow N hr, b2_t h3, ob]
    dsimp +instances only
    rw [if_neg (by decide), k.2.1 1 (by decide), I.es, wI_of (x := M 11 0) (by omega) (by omega), if_neg h4, v1, ob]
    dsimp +instances only
    rw [e1, wI_of (x := M 14 1) (by omega) (by omega), if_pos (by omega), row_s, m_at v2 r1, hO2]
  cases hx : uO (mv_ M) C (M 14 0) p n 0 (M 14 1) with
  | none =>
    rw [hx] at c0
    rw [if_neg (show ¬ enc 1000000 none < 1000000 by decide)] at c0
    obtain ⟨g, m1, m2, m3⟩ := mS N2 kN2.r
    rw [hx, if_neg (show ¬ enc 1048576 none < 1048576 by decide)] at m1
    exact st_kp I c0 kN2 m1 ((Kp.up53 (by decide)).tr (Kp.row (by decide))) rfl
  | some x =>
    have hxr := hO x hx
    rw [hx, if_pos (show enc 1000000 (some x) < 1000000 by show x < 1000000; omega)] at c0
    have P2 : PlI N2 1 (fun _ => 0) := by rw [hN2]; exact PN.k (Kc.row (by decide)) rfl rfl
    have pl := sp_plan P2 (show Sh1 N2 by unfold Sh1; rw [n2 1 (by decide) (by decide) (by decide), n2 2 (by decide) (by decide) (by decide)]; exact I.sh1) hn20 (goal := p) (r := r) (x := x) (by rw [n2m, n2 11 (by decide) (by decide) (by decide), n2 14 (by decide) (by decide) (by decide), f38, ← hC]; exact s2) hr6 (by rw [n2m, n2 14 (by decide) (by decide) (by decide), ← hC]; exact hx)
    rw [n2m, n2 14 (by decide) (by decide) (by decide), n2 3 (by decide) (by decide) (by decide), ← hC] at pl
    obtain ⟨M1, hM1⟩ : ∃ M1, M1 = am_row (am_up N2 2 r n) 3 fun j => if 40 * r ≤ j ∧ j < 40 * r + n then ptO (mv_ M) C (M 14 0) p n n 0 (M 14 1) (j - 40 * r) else M 3 j := ⟨_, rfl⟩
    rw [← hM1] at pl
    rw [pl, ob] at c0
    have kM1 : Kr M M1 := by rw [hM1]; exact (kN2.r.tr (Kr.up (by decide))).tr (Kr.row (by decide))
    obtain ⟨g, m1, m2, m3⟩ := mS M1 kM1
    rw [hx, if_pos (show enc 1048576 (some x) < 1048576 by show x < 1048576; omega)] at m1
    have q11 := kM1.c.1 11 (by decide)
    have q12 := kM1.c.1 12 (by decide)
    have q14 := kM1.c.1 14 (by decide)
    have em : mv_ (am_row (am_up M1 53 22 0) 64 g) = mv_ M := by funext b m d; unfold mv_; rw [row_a (by decide), row_a (by decide), up_a (by decide), up_a (by decide), q11, q12]
    have e11 : (am_row (am_up M1 53 22 0) 64 g) 11 = M 11 := by rw [row_a (by decide), up_a (by decide), q11]
    have e14 : (am_row (am_up M1 53 22 0) 64 g) 14 = M 14 := by rw [row_a (by decide), up_a (by decide), q14]
    obtain ⟨h, w1, w2, w3⟩ := sp_toRow m2 hn20 (goal := p) (r := r) (x := x) (by rw [em, e11, e14, row_s]; exact m3) hr6 (by rw [em, e14]; exact hx)
    rw [em, e14] at w2
    rw [w1, ob] at m1
    exact ⟨_, _, _, _, c0, m1, rfl, inv_plan I hr6 (by omega) (fun j => iR_p (ptO_r _ _ _ _ _ _ _ _ j)) kN2 hM1 ((Kp.up53 (by decide)).tr (Kp.row (by decide))) w2 w3⟩
end
section
/-! The least that a strip pays, the most that a crown gets. -/
theorem omin_n {a b : Option Int} (h : omin a b = none) : a = none ∧ b = none := by
  cases a with
  | none => exact ⟨rfl, h⟩
  | some x =>
    cases b with
    | none => cases h
    | some y =>
      change (if y < x then some y else some x) = none at h
      split at h <;> cases h
theorem vO_some {mv : Int → Int → Int → Int} (hm : ∀ p d, mv p 0 d = 0) (C : Nat → Int → Int → Int) (d : Int) : ∀ (e k : Nat) (p : Int), ∃ x, vO mv C d (gO (-1)) e k p = some x
  | 0, k, p => ⟨0, rfl⟩
  | e + 1, k, p => by
    obtain ⟨y, hy⟩ := vO_some hm C d e (k + 1) (p + 0)
    cases h : vO mv C d (gO (-1)) (e + 1) k p with
    | some x => exact ⟨x, rfl⟩
    | none =>
      exfalso
      rw [vO] at h
      have h2 := (omin_n (omin_n h).1).2
      unfold byO at h2
      rw [if_neg (by rw [hm]; decide), hy] at h2
      cases h2
theorem km_paysOn {M : am_M} (I : Ic M) {i d b : Int} (hi : 0 ≤ i ∧ i < M 11 0) (hd : 0 ≤ d ∧ d < 1000) (hb : 0 ≤ b ∧ b ≤ 12) : X_X9_paysOn_53 i d b M = some (if d % 10 = 9 ∧ d < 40 then db_ M i b else 0, M) := by
  rw [X_X9_paysOn_53, sp_isTaxed M hd, ob]
  dsimp +instances only
  by_cases c : d % 10 = 9 ∧ d < 40
  · rw [if_neg (show ¬ wI (b2 (d % 10 = 9 ∧ d < 40)) = 0 by rw [b2_t c]; decide), km_both I hi hb, if_pos c]; rfl
  · rw [if_pos (show wI (b2 (d % 10 = 9 ∧ d < 40)) = 0 by rw [b2_f c]; rfl), if_neg c]
theorem Kc.db {M N : am_M} (k : Kc M N) : db_ N = db_ M := by
  funext i b
  unfold db_ du_
  rw [k.1 12 (by decide), k.1 13 (by decide), k.1 14 (by decide)]
theorem Kc.mv {M N : am_M} (k : Kc M N) : mv_ N = mv_ M := by
  funext b m d
  unfold mv_
  rw [k.1 11 (by decide), k.1 12 (by decide)]
theorem Kc.du {M N : am_M} (k : Kc M N) : du_ N = du_ M := by
  funext c i b
  unfold du_
  rw [k.1 12 (by decide), k.1 13 (by decide), k.1 14 (by decide)]
theorem eq_least {M : am_M} (I : Inv M) {i n r : Int} (hi : iR i) (hn : iR n) (hr : iR r) : Step (X_X8_least_0 i n r) (X_X9_least_53 i n r) M := gd_least I hi hn hr fun h1 h2 h3 => by
  obtain ⟨n, rfl⟩ := Int.eq_ofNat_of_zero_le h2.1
  obtain ⟨r, rfl⟩ := Int.eq_ofNat_of_zero_le h3.1
  have rs := I.rs
  have r0 := I.r0
  have r1 := I.r1
  have hn20 : n ≤ 20 := by omega
  have hr6 : r < 6 := by omega
  obtain ⟨t, t1, t2⟩ := sp_tolls I.b h1
  obtain ⟨C, hC⟩ : ∃ C, C = cC 0 (mv_ M) (db_ M i) (M 14 0) := ⟨_, rfl⟩
  have hCr : ∀ k p m, -2000 ≤ C k p m ∧ C k p m ≤ 2000 := fun k p m => by rw [hC]; exact cC_r (Or.inl rfl) M (fun b => by have := db_r I.b i b; omega) (M 14 0) k p m
  obtain ⟨N, hN⟩ : ∃ N, N = am_row M 37 t := ⟨_, rfl⟩
  have kN : Kp M N := by rw [hN]; exact Kp.row (by decide)
  have kN1 : Kp N (am_up N 36 6 0) := Kp.up (by decide)
  have nm : mv_ N = mv_ M := kN.b.c.mv
  have n14 : N 14 = M 14 := kN.1 14 (by decide)
  have n11 : N 11 = M 11 := kN.1 11 (by decide)
  have PN : PlI (am_up N 36 6 0) 0 (db_ M i) := by
    refine ⟨Kc.ic I.b.c (kN.tr kN1).b.c, up_s, Or.inl rfl, fun p hp => ?_, ?_⟩
    · rw [up_a (by decide), hN, row_s]; exact t2 p hp
    · have e : cC 0 (mv_ (am_up N 36 6 0)) (db_ M i) ((am_up N 36 6 0) 14 0) = C := by rw [hC, (kN.tr kN1).b.c.mv, (kN.tr kN1).1 14 (by decide)]
      rw [e]; exact hCr
  obtain ⟨f, s1, s2⟩ := sp_solve PN hn20 (goal := -1) (by decide)
  rw [nm, n14, n11, ← hC] at s2
  obtain ⟨N2, hN2⟩ : ∃ N2, N2 = am_row (am_up N 36 6 0) 38 f := ⟨_, rfl⟩
  rw [← hN2] at s1
  have kN2 : Kp M N2 := by rw [hN2]; exact (kN.tr kN1).tr (Kp.row (by decide))
  have n2m : mv_ N2 = mv_ M := kN2.b.c.mv
  have n2_14 : N2 14 = M 14 := kN2.1 14 (by decide)
  have f38 : N2 38 = f := by rw [hN2, row_s]
  have hO := uO_ok (mv := mv_ M) (d := M 14 0) (goal := -1) hn20 hCr 0 (M 14 1)
  obtain ⟨x, hx⟩ : ∃ x, uO (mv_ M) C (M 14 0) (-1) n 0 (M 14 1) = some x := vO_some (fun p d => mv_0 M p d) C (M 14 0) (n - 0) 0 (M 14 1)
  have P2 : PlI N2 0 (db_ M i) := by rw [hN2]; exact PN.k (Kc.row (by decide)) rfl rfl
  have pl := sp_plan P2 (show Sh1 N2 by unfold Sh1; rw [kN2.1 1 (by decide), kN2.1 2 (by decide)]; exact I.sh1) hn20 (goal := -1) (r := r) (x := x) (by rw [n2m, kN2.1 11 (by decide), n2_14, f38, ← hC]; exact s2) hr6 (by rw [n2m, n2_14, ← hC]; exact hx)
  rw [n2m, n2_14, kN2.1 3 (by decide), ← hC] at pl
  obtain ⟨M1, hM1⟩ : ∃ M1, M1 = am_row (am_up N2 2 r n) 3 fun j => if 40 * r ≤ j ∧ j < 40 * r + n then ptO (mv_ M) C (M 14 0) (-1) n n 0 (M 14 1) (j - 40 * r) else M 3 j := ⟨_, rfl⟩
  rw [← hM1] at pl
  have m1_38 : M1 38 = f := by rw [hM1, row_a (by decide), up_a (by decide), f38]
  have m1_14 : M1 14 1 = M 14 1 := by rw [hM1, row_a (by decide), up_a (by decide), n2_14]
  have cf : X_X4_costFrom_36 0 (M 14 1) M1 = some (enc 1000000 (uO (mv_ M) C (M 14 0) (-1) n 0 (M 14 1)), M1) := by
    obtain ⟨x, x1, x2⟩ := c_from (M := M1) (k := 0) (by omega) (q := M 14 1) (by omega)
    obtain ⟨q, hq⟩ := Int.eq_ofNat_of_zero_le r1.1
    have := x2 q (by omega) hq
    rw [m1_38, s2 0 (by omega) (by omega) q (by omega), ← hq] at this
    rw [this] at x1; exact x1
  have c0 : X_X8_least_0 i n r M = some (x, M1) := by
    rw [X_X8_least_0, sp_has_11 I.g11 hi, b2_t h1, ob]
    dsimp +instances only
    rw [if_neg (by decide), sp_isPlan M hn, b2_t h2, ob]
    dsimp +instances only
    rw [if_neg (by decide), sp_isNumber_1 I.sh1 hr, b2_t h3, ob]
    dsimp +instances only
    rw [if_neg (by decide), t1, ob]
    dsimp +instances only
    rw [← hN, s1, ob]
    dsimp +instances only
    rw [pl, ob]
    dsimp +instances only
    rw [m1_14, cf, ob, hx]
    rfl
  have kM1 : Kr M M1 := by rw [hM1]; exact (kN2.r.tr (Kr.up (by decide))).tr (Kr.row (by decide))
  have B : Ic M1 := Kc.ic I.b.c kM1.c
  have kk : Kp M1 (am_up (am_up M1 53 22 1) 53 23 i) := (Kp.up53 (by decide)).tr (Kp.up53 (by decide))
  have kt : Kc M (am_up (am_up M1 53 22 1) 53 23 i) := kM1.c.tr kk.b.c
  have P : MlI (am_up (am_up M1 53 22 1) 53 23 i) 1 i C := by
    refine ⟨Kc.ic B kk.b.c, by rw [up_j (by decide), up_s], up_s, ?_, hCr⟩
    intro M' g g1 g2 k p m hk hp hm hmv
    have B' : Ic M' := Kc.ic (Kc.ic B kk.b.c) g
    have kt' := kt.tr g
    rw [kt.1 11 (by decide)] at hp
    rw [kt.mv, kt.1 14 (by decide)] at hmv
    rw [kt.1 14 (by decide)]
    have hb := mv_in (M := M) hm hp hmv
    rw [X_X9_costOf_53, XB_X9_costOf_53_e, g1, if_neg (by decide), if_pos (by decide), g2, km_paysOn B' (by rw [kt'.1 11 (by decide)]; exact h1) (by omega) (by omega), ob, kt'.db, hC]
    unfold cC
    rw [if_pos rfl, Int.zero_add]
  obtain ⟨g, v1, v2⟩ := sp_values P hn20 (goal := -1) (by decide)
  rw [kt.mv, kt.1 11 (by decide), kt.1 14 (by decide)] at v2
  obtain ⟨X, hX⟩ : ∃ X, X = am_row (am_up (am_up M1 53 22 1) 53 23 i) 64 g := ⟨_, rfl⟩
  rw [← hX] at v1
  have kX : Kp M1 X := by rw [hX]; exact kk.tr (Kp.row (by decide))
  have ktX : Kc M X := kM1.c.tr kX.b.c
  have PX : MlI X 1 i C := by rw [hX]; exact P.k (Kc.row (by decide)) rfl rfl
  have x64 : X 64 = g := by rw [hX, row_s]
  obtain ⟨h, w1, w2, w3⟩ := sp_toRow PX hn20 (goal := -1) (r := r) (x := x) (by rw [ktX.mv, ktX.1 11 (by decide), ktX.1 14 (by decide), x64]; exact v2) hr6 (by rw [ktX.mv, ktX.1 14 (by decide)]; exact hx)
  rw [ktX.mv, ktX.1 14 (by decide)] at w2
  have m0 : X_X9_least_53 i n r M1 = some (x, am_row (am_up X 57 r n) 58 h) := by
    have e1 : (am_row (am_up X 57 r (n : Int)) 58 h) 54 1 = M 14 1 := by
      rw [row_a (by decide), up_a (by decide), ktX.2.2 1 (by decide), I.d1]
    have e64 : (am_row (am_up X 57 r (n : Int)) 58 h) 64 = g := by rw [row_a (by decide), up_a (by decide), x64]
    rw [X_X9_least_53, sp_isStrip (by rw [kM1.2.1 1 (by decide), I.es]; exact rs) hi, kM1.2.1 1 (by decide), I.es, b2_t h1, ob]
    dsimp +instances only
    rw [if_neg (by decide), wI_R hn, sp_in M1 hn i0 i20, b2_t h2, ob]
    dsimp +instances only
    rw [if_neg (by decide), sp_isRow M1 hr, b2_t h3, ob]
    dsimp +instances only
    rw [if_neg (by decide), v1, ob]
    dsimp +instances only
    rw [w1, ob]
    dsimp +instances only
    rw [e1, wI_of (x := M 14 1) (by omega) (by omega), if_pos (by omega), e64, m_at v2 r1, hx]
    rfl
  exact ⟨_, _, _, _, c0, m0, rfl, inv_plan I hr6 (by omega) (fun j => iR_p (ptO_r _ _ _ _ _ _ _ _ j)) kN2 hM1 kX w2 w3⟩
/-! the most that a crown gets -/
theorem sf_r {a : Nat → Int} {B : Int} (h : ∀ j, 0 ≤ a j ∧ a j ≤ B) : ∀ (d i : Nat), 0 ≤ sf a i d ∧ sf a i d ≤ B * d
  | 0, i => by simp [sf]
  | d + 1, i => by
    have h1 := sf_r h d (i + 1)
    have h2 := h i
    simp only [sf]
    rw [Int.natCast_succ, Int.mul_add, Int.mul_one]
    omega
theorem dC_r {M : am_M} (I : Ib M) (c b : Int) : 0 ≤ dC_ M c b ∧ dC_ M c b ≤ 1944 := by
  have rs := I.rs
  have := sf_r (a := fun j => du_ M c j b) (B := 162) (fun j => du_r I c j b) (M 11 0).toNat 0
  unfold dC_
  omega
theorem lp_lost (k : am_M → am_Rs) {N : am_M} (F : Nat → Int) (v : Int) (hP : ∀ (f : Nat → Int) (p : Nat), p < 13 → X_X1_dueToCrown_14_11 v p (am_row N 37 f) = some (F p, am_row N 37 f)) : ∀ (e n i : Nat) (f : Nat → Int), i + e = 13 → e < n → XL_X4_tollLostBy_36_1 k n v i (am_row N 37 f) = k (am_row N 37 fun j => if i ≤ j ∧ j < 13 then -F j else f j) := by
  intro e
  induction e with
  | zero =>
    intro n i f hi hn
    obtain ⟨n, rfl⟩ : ∃ m, n = m + 1 := ⟨n - 1, by omega⟩
    rw [XL_X4_tollLostBy_36_1, XB_X4_tollLostBy_36_1, wI_of (x := (i : Int)) (by omega) (by omega), if_neg (by omega)]
    refine congrArg (fun F => k (am_row N 37 F)) (funext fun j => ?_)
    rw [if_neg (by omega)]
  | succ e ih =>
    intro n i f hi hn
    obtain ⟨n, rfl⟩ : ∃ m, n = m + 1 := ⟨n - 1, by omega⟩
    rw [XL_X4_tollLostBy_36_1, XB_X4_tollLostBy_36_1, wI_of (x := (i : Int)) (by omega) (by omega), if_pos (by omega), hP f i (by omega), ob]
    dsimp +instances only
    rw [if_pos (by omega), Int.toNat_natCast, up_row, row_row, ← Int.natCast_succ, ih n (i + 1) _ (by omega) (by omega)]
    refine congrArg (fun F => k (am_row N 37 F)) (funext fun j => ?_)
    rw [row_s]
    by_cases c : j = i
    · subst c; rw [if_neg (by omega), if_pos rfl, if_pos (by omega)]
    · by_cases c2 : i + 1 ≤ j ∧ j < 13
      · rw [if_pos c2, if_pos (by omega)]
      · rw [if_neg c2, if_neg c, if_neg (by omega)]
theorem sp_lost {M : am_M} (I : Ib M) {c : Int} (hc : c = 0 ∨ c = 1) : ∃ f, X_X4_tollLostBy_36 c M = some (0, am_row M 37 f) ∧ ∀ p : Nat, p < 13 → f p = -dC_ M c p := by
  have := lp_lost XB_X4_tollLostBy_36_3 (N := M) (fun p => dC_ M c p) c (fun f p hp => by
    have B : Ib (am_row M 37 f) := Kb.ib I (Kp.row (by decide)).b
    exact sp_dc B hc (by omega)) 13 1000 0 (M 37) (by omega) (by omega)
  rw [row_self, show ((0 : Nat) : Int) = 0 from rfl] at this
  refine ⟨fun j => if 0 ≤ j ∧ j < 13 then -dC_ M c j else M 37 j, ?_, fun p hp => if_pos (by omega)⟩
  rw [X_X4_tollLostBy_36, XB_X4_tollLostBy_36_e, this]; rfl
theorem lp_costM (k : Int → am_M → am_Rs) {M : am_M} (I : Ic M) {c : Int} (hc : c = 0 ∨ c = 1) (h23 : M 53 23 = c) {p m d : Int} (hb : 0 ≤ p + m ∧ p + m ≤ 12) (hd : 0 ≤ d ∧ d < 1000) (ht : d % 10 = 9 ∧ d < 40) : ∀ (e n i : Nat) (acc : Int), (i : Int) + e = M 11 0 → e < n → XL_X9_costOf_53_5 k n p d m acc i M = k (acc - sf (fun j => du_ M c j (p + m)) i e) M := by
  intro e
  induction e with
  | zero =>
    intro n i acc hi hn
    have rs := I.rs
    obtain ⟨n, rfl⟩ : ∃ m, n = m + 1 := ⟨n - 1, by omega⟩
    rw [XL_X9_costOf_53_5, XB_X9_costOf_53_5, I.es, wI_of (x := (i : Int)) (by omega) (by omega), wI_of (x := M 11 0) (by omega) (by omega), if_neg (by omega)]
    simp only [sf, Int.sub_zero]
  | succ e ih =>
    intro n i acc hi hn
    have rs := I.rs
    obtain ⟨n, rfl⟩ : ∃ m, n = m + 1 := ⟨n - 1, by omega⟩
    have pt : ∀ x : Nat, (x : Int) = 2 + c → X_X9_paysTo_53 i c (p + m) (M 54 x) M = some (du_ M c i (p + m), M) := by
      intro x hx
      rcases hc with rfl | rfl
      · rw [show x = 2 by omega]; exact km_due0 I (by omega) hb
      · rw [show x = 3 by omega]; exact km_due1 I (by omega) hb
    have ih := ih n (i + 1) (acc - du_ M c i (p + m)) (by push_cast; omega) (by omega)
    rw [XL_X9_costOf_53_5, XB_X9_costOf_53_5, I.es, wI_of (x := (i : Int)) (by omega) (by omega), wI_of (x := M 11 0) (by omega) (by omega), if_pos (by omega), sp_isTaxed M hd, b2_t ht, ob]
    dsimp +instances only
    rw [if_neg (by decide), h23, wI_of (x := 2 + c) (by omega) (by omega), if_pos (by omega), pt (2 + c).toNat (by omega), ob]
    simp only [sf]
    rw [show acc - (du_ M c i (p + m) + sf (fun j => du_ M c j (p + m)) (i + 1) e) = acc - du_ M c i (p + m) - sf (fun j => du_ M c j (p + m)) (i + 1) e by omega]
    exact ih
theorem km_costM {M : am_M} (I : Ic M) {c : Int} (hc : c = 0 ∨ c = 1) (h22 : M 53 22 = 2) (h23 : M 53 23 = c) {p m d : Int} (hb : 0 ≤ p + m ∧ p + m ≤ 12) (hd : 0 ≤ d ∧ d < 1000) : X_X9_costOf_53 p d m M = some (if d % 10 = 9 ∧ d < 40 then -dC_ M c (p + m) else 0, M) := by
  have rs := I.rs
  rw [X_X9_costOf_53, XB_X9_costOf_53_e, h22, if_neg (by decide), if_neg (by decide)]
  by_cases ht : d % 10 = 9 ∧ d < 40
  · have := lp_costM XB_X9_costOf_53_8 I hc h23 hb hd ht (M 11 0).toNat 1000 0 0 (by omega) (by omega)
    rw [show ((0 : Nat) : Int) = 0 from rfl, Int.zero_sub] at this
    rw [this, if_pos ht]; rfl
  · rw [if_neg ht, XL_X9_costOf_53_5, XB_X9_costOf_53_5, I.es, wI_0, wI_of (x := M 11 0) (by omega) (by omega), sp_isTaxed M hd, b2_f ht, ob]
    dsimp +instances only
    rw [if_pos wI_0]
    split <;> rfl
theorem eq_most {M : am_M} (I : Inv M) {c n : Int} (hc : iR c) (hn : iR n) : Step (X_X8_most_0 c n) (X_X9_most_53 c n) M := gd_most I hc hn fun h1 h2 h3 => by
  obtain ⟨n, rfl⟩ := Int.eq_ofNat_of_zero_le h2.1
  have c01 : c = 0 ∨ c = 1 := by omega
  have rs := I.rs
  have r0 := I.r0
  have r1 := I.r1
  have hn20 : n ≤ 20 := by omega
  obtain ⟨t, t1, t2⟩ := sp_lost I.b c01
  obtain ⟨C, hC⟩ : ∃ C, C = cC 0 (mv_ M) (fun b => -dC_ M c b) (M 14 0) := ⟨_, rfl⟩
  have hCr : ∀ k p m, -2000 ≤ C k p m ∧ C k p m ≤ 2000 := fun k p m => by rw [hC]; exact cC_r (Or.inl rfl) M (fun b => by have := dC_r I.b c b; omega) (M 14 0) k p m
  obtain ⟨N, hN⟩ : ∃ N, N = am_row M 37 t := ⟨_, rfl⟩
  have kN : Kp M N := by rw [hN]; exact Kp.row (by decide)
  have kN1 : Kp N (am_up N 36 6 0) := Kp.up (by decide)
  have PN : PlI (am_up N 36 6 0) 0 (fun b => -dC_ M c b) := by
    refine ⟨Kc.ic I.b.c (kN.tr kN1).b.c, up_s, Or.inl rfl, fun p hp => ?_, ?_⟩
    · rw [up_a (by decide), hN, row_s]; exact t2 p hp
    · have e : cC 0 (mv_ (am_up N 36 6 0)) (fun b => -dC_ M c b) ((am_up N 36 6 0) 14 0) = C := by rw [hC, (kN.tr kN1).b.c.mv, (kN.tr kN1).1 14 (by decide)]
      rw [e]; exact hCr
  obtain ⟨f, s1, s2⟩ := sp_solve PN hn20 (goal := -1) (by decide)
  rw [kN.b.c.mv, kN.1 14 (by decide), kN.1 11 (by decide), ← hC] at s2
  obtain ⟨N2, hN2⟩ : ∃ N2, N2 = am_row (am_up N 36 6 0) 38 f := ⟨_, rfl⟩
  rw [← hN2] at s1
  have kN2 : Kp M N2 := by rw [hN2]; exact (kN.tr kN1).tr (Kp.row (by decide))
  have f38 : N2 38 = f := by rw [hN2, row_s]
  obtain ⟨x, hx⟩ : ∃ x, uO (mv_ M) C (M 14 0) (-1) n 0 (M 14 1) = some x := vO_some (fun p d => mv_0 M p d) C (M 14 0) (n - 0) 0 (M 14 1)
  have cf : X_X4_costFrom_36 0 (M 14 1) N2 = some (enc 1000000 (uO (mv_ M) C (M 14 0) (-1) n 0 (M 14 1)), N2) := by
    obtain ⟨x, x1, x2⟩ := c_from (M := N2) (k := 0) (by omega) (q := M 14 1) (by omega)
    obtain ⟨q, hq⟩ := Int.eq_ofNat_of_zero_le r1.1
    have := x2 q (by omega) hq
    rw [f38, s2 0 (by omega) (by omega) q (by omega), ← hq] at this
    rw [this] at x1; exact x1
  have c0 : X_X8_most_0 c n M = some (-x, N2) := by
    rw [X_X8_most_0, sp_isCrown M hc, b2_t h1, ob]
    dsimp +instances only
    rw [if_neg (by decide), sp_isPlan M hn, b2_t h2, ob]
    dsimp +instances only
    rw [if_neg (by decide), sp_hasNoLand I.g11, b2_f h3, ob]
    dsimp +instances only
    rw [if_pos wI_0, t1, ob]
    dsimp +instances only
    rw [← hN, s1, ob]
    dsimp +instances only
    rw [kN2.1 14 (by decide), cf, ob, hx]
    rfl
  have B : Ic N2 := Kc.ic I.b.c kN2.b.c
  have kk : Kp N2 (am_up (am_up N2 53 22 2) 53 23 c) := (Kp.up53 (by decide)).tr (Kp.up53 (by decide))
  have kt : Kc M (am_up (am_up N2 53 22 2) 53 23 c) := kN2.b.c.tr kk.b.c
  have P : MlI (am_up (am_up N2 53 22 2) 53 23 c) 2 c C := by
    refine ⟨Kc.ic B kk.b.c, by rw [up_j (by decide), up_s], up_s, ?_, hCr⟩
    intro M' g g1 g2 k p m hk hp hm hmv
    have B' : Ic M' := Kc.ic (Kc.ic B kk.b.c) g
    have kt' := kt.tr g
    rw [kt.1 11 (by decide)] at hp
    rw [kt.mv, kt.1 14 (by decide)] at hmv
    rw [kt.1 14 (by decide)]
    have hb := mv_in (M := M) hm hp hmv
    have e : dC_ M' c (p + m) = dC_ M c (p + m) := by unfold dC_; rw [kt'.du, kt'.1 11 (by decide)]
    rw [km_costM B' c01 g1 g2 (by omega) (by omega), e, hC]
    unfold cC
    rw [if_pos rfl, Int.zero_add]
  obtain ⟨g, v1, v2⟩ := sp_values P hn20 (goal := -1) (by decide)
  rw [kt.mv, kt.1 11 (by decide), kt.1 14 (by decide)] at v2
  obtain ⟨X, hX⟩ : ∃ X, X = am_row (am_up (am_up N2 53 22 2) 53 23 c) 64 g := ⟨_, rfl⟩
  rw [← hX] at v1
  have kX : Kp N2 X := by rw [hX]; exact kk.tr (Kp.row (by decide))
  have ktX : Kc M X := kN2.b.c.tr kX.b.c
  have x64 : X 64 = g := by rw [hX, row_s]
  have m0 : X_X9_most_53 c n N2 = some (-x, X) := by
    have e1 : X 54 1 = M 14 1 := by rw [ktX.2.2 1 (by decide), I.d1]
    have e53 : N2 53 1 = M 11 0 := by rw [kN2.2.1 1 (by decide), I.es]
    rw [X_X9_most_53, wI_R hc, sp_in N2 hc i0 i1, b2_t h1, ob]
    dsimp +instances only
    rw [if_neg (by decide), wI_R hn, sp_in N2 hn i0 i20, b2_t h2, ob]
    dsimp +instances only
    rw [if_neg (by decide), e53, wI_of (x := M 11 0) (by omega) (by omega), if_neg h3, v1, ob]
    dsimp +instances only
    rw [e1, wI_of (x := M 14 1) (by omega) (by omega), if_pos (by omega), x64, m_at v2 r1, hx]
    rfl
  exact st_kp I c0 kN2 m0 kX rfl
end
section
/-! How many rows of moves lead there; the soonest. -/
noncomputable def wN (mv : Int → Int → Int → Int) (d to : Int) : Nat → Nat → Int → Int
  | 0, _, p => if p = to then 1 else 0
  | e + 1, k, p => 0 + (if mv p (-1) (d + k) = -1 then 0 else wN mv d to e (k + 1) (p + -1)) + (if mv p 0 (d + k) = -1 then 0 else wN mv d to e (k + 1) (p + 0)) + (if mv p 1 (d + k) = -1 then 0 else wN mv d to e (k + 1) (p + 1))
theorem wN_r (mv : Int → Int → Int → Int) (d to : Int) : ∀ (e k : Nat) (p : Int), 0 ≤ wN mv d to e k p ∧ wN mv d to e k p ≤ 3 ^ e
  | 0, _, p => by unfold wN; split <;> decide
  | e + 1, k, p => by
    have h1 := wN_r mv d to e (k + 1) (p + -1)
    have h2 := wN_r mv d to e (k + 1) (p + 0)
    have h3 := wN_r mv d to e (k + 1) (p + 1)
    have h0 : (0 : Int) ≤ 3 ^ e := by omega
    unfold wN
    rw [Int.pow_succ]
    generalize wN mv d to e (k + 1) (p + -1) = a at h1 ⊢
    generalize wN mv d to e (k + 1) (p + 0) = b at h2 ⊢
    generalize wN mv d to e (k + 1) (p + 1) = c at h3 ⊢
    generalize (3 : Int) ^ e = T at h0 h1 h2 h3 ⊢
    repeat' split
    all_goals omega
theorem p3 : ∀ e, e ≤ 20 → (3 : Int) ^ e ≤ 3486784401 := by
  have : ∀ e : Fin 21, (3 : Int) ^ e.val ≤ 3486784401 := by decide
  intro e he
  exact this ⟨e, by omega⟩
theorem wN_R (mv : Int → Int → Int → Int) (d to : Int) {e : Nat} (he : e ≤ 20) (k : Nat) (p : Int) : 0 ≤ wN mv d to e k p ∧ wN mv d to e k p ≤ 3486784401 := by
  have h1 := wN_r mv d to e k p
  have h2 := p3 e he
  omega
theorem m_lw1 (kk : Int → Int → Int → am_M → am_Rs) {N : am_M} (I : Ic N) {f : Nat → Int} {V : Int → Int} {k : Nat} (hk : k < 20) (hV : ∀ q : Nat, (q : Int) ≤ N 11 0 → f (13 * (k + 1) + q) = V q) {p m : Int} (hp : 0 ≤ p ∧ p ≤ N 11 0) (hm : m = -1 ∨ m = 0 ∨ m = 1) (n : Nat) (a : Int) : XL_X9_layWays_53_11 kk (n + 1) k p a m (am_row N 65 f) = XL_X9_layWays_53_11 kk n k p (a + (if mv_ N p m (N 14 0 + k) = -1 then 0 else V (p + m))) (m + 1) (am_row N 65 f) := by
  have r0 := I.r0
  have rs := I.rs
  have B : Ic (am_row N 65 f) := Kc.ic I (Kc.row (by decide))
  have s1 : X_X9_canBe_53 p (N 14 0 + k) m (am_row N 65 f) = some (b2 (mv_ N p m (N 14 0 + k) ≠ -1), am_row N 65 f) := km_can B hp (by omega) (by omega)
  rw [XL_X9_layWays_53_11, XB_X9_layWays_53_11, wI_of (x := m) (by omega) (by omega), if_pos (by omega), show (am_row N 65 f) 54 0 = N 14 0 from I.d0, s1, ob]
  dsimp +instances only
  by_cases c : mv_ N p m (N 14 0 + k) = -1
  · rw [if_pos (show wI (b2 (mv_ N p m (N 14 0 + k) ≠ -1)) = 0 by rw [b2_f (fun q => q c)]; rfl), if_pos c]
  · rw [if_neg (show ¬ wI (b2 (mv_ N p m (N 14 0 + k) ≠ -1)) = 0 by rw [b2_t c]; decide), if_neg c]
    have hb := mv_in hm hp c
    obtain ⟨q, hq⟩ := Int.eq_ofNat_of_zero_le hb.1
    have e : ∀ _ : Unit, wI (13 * ((k : Int) + 1) + p + m) = ((13 * (k + 1) + q : Nat) : Int) := fun _ => by rw [wI_of (by omega) (by omega)]; push_cast; omega
    rw [e (), Int.toNat_natCast, if_pos (by omega), row_s, hV q (by omega), ← hq]
/-- the table of ways from row k0 on -/
noncomputable def Tw (s : Int) (U : Nat → Int → Int) (n k0 : Nat) (f : Nat → Int) : Prop := ∀ k, k0 ≤ k → k ≤ n → ∀ p : Nat, (p : Int) ≤ s → f (13 * k + p) = U k p
theorem lp_w1 (kk : Int → am_M → am_Rs) {N : am_M} (I : Ic N) {to : Int} {n : Nat} (hn : n ≤ 20) (hto : 0 ≤ to ∧ to ≤ 12) : ∀ (e n1 i : Nat) (f : Nat → Int), (i : Int) + e = N 11 0 + 1 → e < n1 → (∀ p : Nat, p < i → f (13 * n + p) = if (p : Int) = to then 1 else 0) → ∃ f', XL_X9_layWays_53_1 kk n1 n to i (am_row N 65 f) = kk n (am_row N 65 f') ∧ ∀ p : Nat, (p : Int) ≤ N 11 0 → f' (13 * n + p) = if (p : Int) = to then 1 else 0 := by
  intro e
  induction e with
  | zero =>
    intro n1 i f hi hn1 hf
    have rs := I.rs
    obtain ⟨n1, rfl⟩ : ∃ m, n1 = m + 1 := ⟨n1 - 1, by omega⟩
    refine ⟨f, ?_, fun p hp => hf p (by omega)⟩
    rw [XL_X9_layWays_53_1, XB_X9_layWays_53_1, show (am_row N 65 f) 53 1 = N 11 0 from I.es, wI_of (x := (i : Int)) (by omega) (by omega), wI_of (x := N 11 0) (by omega) (by omega), if_pos (by omega)]
  | succ e ih =>
    intro n1 i f hi hn1 hf
    have rs := I.rs
    obtain ⟨n1, rfl⟩ : ∃ m, n1 = m + 1 := ⟨n1 - 1, by omega⟩
    obtain ⟨f', a1, a2⟩ := ih n1 (i + 1) (fun j => if j = 13 * n + i then (if (i : Int) = to then 1 else 0) else f j) (by push_cast; omega) (by omega) (fun p hp => by
      by_cases c : p = i
      · subst c; rw [if_pos rfl]
      · rw [if_neg (by omega)]; exact hf p (by omega))
    refine ⟨f', ?_, a2⟩
    have e1 : ∀ _ : Unit, wI (13 * (n : Int) + i) = ((13 * n + i : Nat) : Int) := fun _ => by rw [wI_of (by omega) (by omega)]; push_cast; omega
    rw [XL_X9_layWays_53_1, XB_X9_layWays_53_1, show (am_row N 65 f) 53 1 = N 11 0 from I.es, wI_of (x := (i : Int)) (by omega) (by omega), wI_of (x := N 11 0) (by omega) (by omega), if_neg (by omega), wI_of (x := to) (by omega) (by omega)]
    simp only [e1 (), Int.toNat_natCast, up_row, row_row, row_s]
    rw [if_pos (show 0 ≤ ((13 * n + i : Nat) : Int) ∧ ((13 * n + i : Nat) : Int) < 273 by omega), if_pos (show 0 ≤ ((13 * n + i : Nat) : Int) ∧ ((13 * n + i : Nat) : Int) < 273 by omega)]
    by_cases c2 : (i : Int) = to
    · simp only [if_pos c2] at a1
      rw [if_pos c2]
      exact a1
    · simp only [if_neg c2] at a1
      rw [if_neg c2]
      exact a1
theorem lp_w9 (kk : Int → am_M → am_Rs) {N : am_M} (I : Ic N) {to : Int} {n k : Nat} (hn : n ≤ 20) (hk : k < n) : ∀ (e n1 i : Nat) (f : Nat → Int), (i : Int) + e = N 11 0 + 1 → e < n1 → Tw (N 11 0) (fun k p => wN (mv_ N) (N 14 0) to (n - k) k p) n (k + 1) f → (∀ p : Nat, p < i → f (13 * k + p) = wN (mv_ N) (N 14 0) to (n - k) k p) → ∃ f', XL_X9_layWays_53_9 kk n1 k i (am_row N 65 f) = kk k (am_row N 65 f') ∧ Tw (N 11 0) (fun k p => wN (mv_ N) (N 14 0) to (n - k) k p) n k f' := by
  intro e
  induction e with
  | zero =>
    intro n1 i f hi hn1 hT hf
    have rs := I.rs
    obtain ⟨n1, rfl⟩ : ∃ m, n1 = m + 1 := ⟨n1 - 1, by omega⟩
    refine ⟨f, ?_, fun k' h1 h2 p hp => ?_⟩
    · rw [XL_X9_layWays_53_9, XB_X9_layWays_53_9, show (am_row N 65 f) 53 1 = N 11 0 from I.es, wI_of (x := (i : Int)) (by omega) (by omega), wI_of (x := N 11 0) (by omega) (by omega), if_pos (by omega)]
    · rcases Nat.lt_or_eq_of_le h1 with h | h
      · exact hT k' h h2 p hp
      · subst h; exact hf p (by omega)
  | succ e ih =>
    intro n1 i f hi hn1 hT hf
    have rs := I.rs
    obtain ⟨n1, rfl⟩ : ∃ m, n1 = m + 1 := ⟨n1 - 1, by omega⟩
    obtain ⟨f', a1, a2⟩ := ih n1 (i + 1) (fun j => if j = 13 * k + i then wN (mv_ N) (N 14 0) to (n - k) k i else f j) (by push_cast; omega) (by omega) (fun k' h1 h2 p hp => by show (if 13 * k' + p = 13 * k + i then _ else _) = _; rw [if_neg (by omega)]; exact hT k' h1 h2 p hp) (fun p hp => by
      by_cases c : p = i
      · subst c; rw [if_pos rfl]
      · rw [if_neg (by omega)]; exact hf p (by omega))
    refine ⟨f', ?_, a2⟩
    have e1 : ∀ _ : Unit, wI (13 * (k : Int) + i) = ((13 * k + i : Nat) : Int) := fun _ => by rw [wI_of (by omega) (by omega)]; push_cast; omega
    have hV : ∀ q : Nat, (q : Int) ≤ N 11 0 → f (13 * (k + 1) + q) = wN (mv_ N) (N 14 0) to (n - (k + 1)) (k + 1) q := fun q hq => hT (k + 1) (by omega) (by omega) q hq
    have hp : 0 ≤ (i : Int) ∧ (i : Int) ≤ N 11 0 := by omega
    have s1 : XL_X9_layWays_53_11 (XB_X9_layWays_53_16 (XL_X9_layWays_53_9 kk n1)) 1000 k i 0 (-1) (am_row N 65 f) = _ := m_lw1 (XB_X9_layWays_53_16 (XL_X9_layWays_53_9 kk n1)) I (V := fun q => wN (mv_ N) (N 14 0) to (n - (k + 1)) (k + 1) q) (by omega) hV hp (m := -1) (Or.inl rfl) 999 0
    have s2 : ∀ a, XL_X9_layWays_53_11 (XB_X9_layWays_53_16 (XL_X9_layWays_53_9 kk n1)) 999 k i a (-1 + 1) (am_row N 65 f) = _ := fun a => m_lw1 (XB_X9_layWays_53_16 (XL_X9_layWays_53_9 kk n1)) I (V := fun q => wN (mv_ N) (N 14 0) to (n - (k + 1)) (k + 1) q) (by omega) hV hp (m := -1 + 1) (Or.inr (Or.inl rfl)) 998 a
    have s3 : ∀ a, XL_X9_layWays_53_11 (XB_X9_layWays_53_16 (XL_X9_layWays_53_9 kk n1)) 998 k i a (-1 + 1 + 1) (am_row N 65 f) = _ := fun a => m_lw1 (XB_X9_layWays_53_16 (XL_X9_layWays_53_9 kk n1)) I (V := fun q => wN (mv_ N) (N 14 0) to (n - (k + 1)) (k + 1) q) (by omega) hV hp (m := -1 + 1 + 1) (Or.inr (Or.inr rfl)) 997 a
    rw [XL_X9_layWays_53_9, XB_X9_layWays_53_9, show (am_row N 65 f) 53 1 = N 11 0 from I.es, wI_of (x := (i : Int)) (by omega) (by omega), wI_of (x := N 11 0) (by omega) (by omega), if_neg (by omega), s1, s2, s3, XL_X9_layWays_53_11, XB_X9_layWays_53_11, if_neg (show ¬ wI (-1 + 1 + 1 + 1) < 2 by decide), XB_X9_layWays_53_16, e1 (), if_pos (by omega), Int.toNat_natCast, up_row, row_row, row_s]
    rw [show n - k = (n - (k + 1)) + 1 by omega] at a1
    exact a1
theorem lp_w7 (kk : am_M → am_Rs) {N : am_M} (I : Ic N) {to : Int} {n : Nat} (hn : n ≤ 20) : ∀ (e n1 : Nat) (f : Nat → Int), e ≤ n → e < n1 → Tw (N 11 0) (fun k p => wN (mv_ N) (N 14 0) to (n - k) k p) n e f → ∃ f', XL_X9_layWays_53_7 kk n1 ((e : Int) - 1) (am_row N 65 f) = kk (am_row N 65 f') ∧ Tw (N 11 0) (fun k p => wN (mv_ N) (N 14 0) to (n - k) k p) n 0 f' := by
  intro e
  induction e with
  | zero =>
    intro n1 f he hn1 hT
    obtain ⟨n1, rfl⟩ : ∃ m, n1 = m + 1 := ⟨n1 - 1, by omega⟩
    refine ⟨f, ?_, hT⟩
    rw [XL_X9_layWays_53_7, XB_X9_layWays_53_7, if_pos (by decide)]
  | succ e ih =>
    intro n1 f he hn1 hT
    have rs := I.rs
    obtain ⟨n1, rfl⟩ : ∃ m, n1 = m + 1 := ⟨n1 - 1, by omega⟩
    obtain ⟨f1, a1, a2⟩ := lp_w9 (XB_X9_layWays_53_17 (XL_X9_layWays_53_7 kk n1)) I (to := to) (n := n) (k := e) hn (by omega) (N 11 0 + 1).toNat 1000 0 f (by omega) (by omega) hT (fun p hp => by omega)
    obtain ⟨f', b1, b2⟩ := ih n1 f1 (by omega) (by omega) a2
    refine ⟨f', ?_, b2⟩
    rw [show ((0 : Nat) : Int) = 0 from rfl] at a1
    rw [XL_X9_layWays_53_7, XB_X9_layWays_53_7, show ((e + 1 : Nat) : Int) - 1 = (e : Int) by omega, wI_of (x := (e : Int)) (by omega) (by omega), if_neg (by omega), a1, XB_X9_layWays_53_17]
    exact b1
theorem sp_layWays {N : am_M} (I : Ic N) {n : Nat} (hn : n ≤ 20) {to : Int} (hto : 0 ≤ to ∧ to ≤ 12) : ∃ f, X_X9_layWays_53 n to N = some (0, am_row N 65 f) ∧ Tw (N 11 0) (fun k p => wN (mv_ N) (N 14 0) to (n - k) k p) n 0 f := by
  have rs := I.rs
  obtain ⟨f1, a1, a2⟩ := lp_w1 (XB_X9_layWays_53_6 (XL_X9_layWays_53_7 XB_X9_layWays_53_18 1000)) I (to := to) hn hto ((N 11 0 + 1).toNat) 1000 0 (N 65) (by omega) (by omega) (fun p hp => by omega)
  obtain ⟨f2, b1, b2⟩ := lp_w7 XB_X9_layWays_53_18 I (to := to) hn n 1000 f1 (Nat.le_refl _) (by omega) (fun k h1 h2 p hp => by
    have : k = n := by omega
    subst this
    rw [a2 p hp]
    show _ = wN (mv_ N) (N 14 0) to (k - k) k p
    rw [Nat.sub_self]; rfl)
  refine ⟨f2, ?_, b2⟩
  rw [show ((0 : Nat) : Int) = 0 from rfl, row_self] at a1
  rw [X_X9_layWays_53, XB_X9_layWays_53_e, a1, XB_X9_layWays_53_6, b1]
  rfl
/-! nothing counts: a place is good if there is a way -/
noncomputable def c0_ (_ : Nat) (_ _ : Int) : Int := 0
theorem gO_w (to p : Int) (h : to ≠ -1) : gO to p = if (if p = to then (1 : Int) else 0) = 0 then none else some 0 := by
  unfold gO
  by_cases c : p = to
  · rw [if_pos (Or.inr c.symm), if_pos c, if_neg (by decide)]
  · rw [if_neg c, if_pos rfl, if_neg (fun q => q.elim h (fun w => c w.symm))]
theorem vO_w {mv : Int → Int → Int → Int} {d to : Int} (hto : to ≠ -1) : ∀ (e k : Nat) (p : Int), vO mv c0_ d (gO to) e k p = if wN mv d to e k p = 0 then none else some 0
  | 0, k, p => gO_w to p hto
  | e + 1, k, p => by
    have b : ∀ m, byO mv c0_ d (vO mv c0_ d (gO to) e (k + 1)) k p m = if (if mv p m (d + k) = -1 then 0 else wN mv d to e (k + 1) (p + m)) = 0 then none else some 0 := by
      intro m
      unfold byO
      by_cases c : mv p m (d + k) = -1
      · rw [if_pos c, if_pos c, if_pos rfl]
      · rw [if_neg c, if_neg c, vO_w hto e (k + 1) (p + m)]
        split <;> rfl
    have h1 := (wN_r mv d to e (k + 1) (p + -1)).1
    have h2 := (wN_r mv d to e (k + 1) (p + 0)).1
    have h3 := (wN_r mv d to e (k + 1) (p + 1)).1
    rw [vO, wN]
    unfold stO
    rw [b, b, b]
    generalize wN mv d to e (k + 1) (p + -1) = x1 at h1 ⊢
    generalize wN mv d to e (k + 1) (p + 0) = x2 at h2 ⊢
    generalize wN mv d to e (k + 1) (p + 1) = x3 at h3 ⊢
    have k1 : 0 ≤ (if mv p (-1) (d + k) = -1 then 0 else x1) := by split <;> omega
    have k2 : 0 ≤ (if mv p 0 (d + k) = -1 then 0 else x2) := by split <;> omega
    have k3 : 0 ≤ (if mv p 1 (d + k) = -1 then 0 else x3) := by split <;> omega
    generalize (if mv p (-1) (d + k) = -1 then 0 else x1) = y1 at k1 ⊢
    generalize (if mv p 0 (d + k) = -1 then 0 else x2) = y2 at k2 ⊢
    generalize (if mv p 1 (d + k) = -1 then 0 else x3) = y3 at k3 ⊢
    by_cases c1 : y1 = 0
    · by_cases c2 : y2 = 0
      · by_cases c3 : y3 = 0
        · rw [if_pos c1, if_pos c2, if_pos c3, if_pos (by omega)]; rfl
        · rw [if_pos c1, if_pos c2, if_neg c3, if_neg (by omega)]; rfl
      · by_cases c3 : y3 = 0
        · rw [if_pos c1, if_neg c2, if_pos c3, if_neg (by omega)]; rfl
        · rw [if_pos c1, if_neg c2, if_neg c3, if_neg (by omega)]; rfl
    · by_cases c2 : y2 = 0
      · by_cases c3 : y3 = 0
        · rw [if_neg c1, if_pos c2, if_pos c3, if_neg (by omega)]; rfl
        · rw [if_neg c1, if_pos c2, if_neg c3, if_neg (by omega)]; rfl
      · by_cases c3 : y3 = 0
        · rw [if_neg c1, if_neg c2, if_pos c3, if_neg (by omega)]; rfl
        · rw [if_neg c1, if_neg c2, if_neg c3, if_neg (by omega)]; rfl
theorem cC_0 (mv : Int → Int → Int → Int) (d : Int) : cC 0 mv (fun _ => 0) d = c0_ := by
  funext k p m
  unfold cC c0_
  rw [if_pos rfl]
  split <;> rfl
/-- a place that can be come to has a way -/
theorem rc_w {M : am_M} {n : Nat} {to : Int} : ∀ (k q : Nat), k ≤ n → rc_ M k q → wN (mv_ M) (M 14 0) to (n - k) k q ≠ 0 → wN (mv_ M) (M 14 0) to n 0 (M 14 1) ≠ 0
  | 0, q, _, h, hw => by
    have h : (q : Int) = M 14 1 := h
    rw [h] at hw; exact hw
  | k + 1, q, hk, h, hw => by
    obtain ⟨p, h1, h2, m, h3, h4, h5⟩ := h
    refine rc_w k p (by omega) h1 ?_
    rw [show n - k = (n - (k + 1)) + 1 by omega, wN]
    rw [h5] at hw
    have a1 := (wN_r (mv_ M) (M 14 0) to (n - (k + 1)) (k + 1) ((p : Int) + -1)).1
    have a2 := (wN_r (mv_ M) (M 14 0) to (n - (k + 1)) (k + 1) ((p : Int) + 0)).1
    have a3 := (wN_r (mv_ M) (M 14 0) to (n - (k + 1)) (k + 1) ((p : Int) + 1)).1
    generalize hx1 : wN (mv_ M) (M 14 0) to (n - (k + 1)) (k + 1) ((p : Int) + -1) = x1 at a1 ⊢
    generalize hx2 : wN (mv_ M) (M 14 0) to (n - (k + 1)) (k + 1) ((p : Int) + 0) = x2 at a2 ⊢
    generalize hx3 : wN (mv_ M) (M 14 0) to (n - (k + 1)) (k + 1) ((p : Int) + 1) = x3 at a3 ⊢
    rcases h3 with rfl | rfl | rfl
    · rw [hx1] at hw
      rw [if_neg h4]
      split <;> split <;> omega
    · rw [hx2] at hw
      rw [if_neg h4]
      split <;> split <;> omega
    · rw [hx3] at hw
      rw [if_neg h4]
      split <;> split <;> omega
/-! the reference's first row -/
theorem m_fr1 (k6 : Int → Int → Int → Int → Int → am_M → am_Rs) {M : am_M} (I : Ic M) {n : Nat} (hn : n ≤ 20) {to : Int} (hto : 0 ≤ to) (hT : Tw (M 11 0) (fun k p => wN (mv_ M) (M 14 0) to (n - k) k p) n 0 (M 65)) {k : Nat} (hk : k < n) {r v : Int} {p : Nat} {m : Int} (hp : (p : Int) ≤ M 11 0) (hm : m = -1 ∨ m = 0 ∨ m = 1) (n1 : Nat) : XL_X9_firstRow_53_3 k6 (n1 + 1) r v p k m M = if byO (mv_ M) c0_ (M 14 0) (uO (mv_ M) c0_ (M 14 0) to n (k + 1)) k p m = some 0 then k6 r v p k m M else XL_X9_firstRow_53_3 k6 n1 r v p k (m + 1) M := by
  have r0 := I.r0
  have rs := I.rs
  have hp2 : 0 ≤ (p : Int) ∧ (p : Int) ≤ M 11 0 := by omega
  rw [XL_X9_firstRow_53_3, XB_X9_firstRow_53_3, I.d0, km_can I hp2 (by omega) (by omega), ob]
  dsimp +instances only
  unfold byO
  by_cases c : mv_ M p m (M 14 0 + k) = -1
  · rw [if_pos (show wI (b2 (mv_ M p m (M 14 0 + k) ≠ -1)) = 0 by rw [b2_f (fun q => q c)]; rfl), if_pos c, if_neg (fun h => by cases h)]
  · rw [if_neg (show ¬ wI (b2 (mv_ M p m (M 14 0 + k) ≠ -1)) = 0 by rw [b2_t c]; decide), if_neg c]
    have hb := mv_in hm hp2 c
    obtain ⟨q, hq⟩ := Int.eq_ofNat_of_zero_le hb.1
    have e : ∀ _ : Unit, wI (13 * ((k : Int) + 1) + p + m) = ((13 * (k + 1) + q : Nat) : Int) := fun _ => by rw [wI_of (by omega) (by omega)]; push_cast; omega
    have hw := wN_R (mv_ M) (M 14 0) to (e := n - (k + 1)) (by omega) (k + 1) (p + m)
    have hx : M 65 (13 * (k + 1) + q) = wN (mv_ M) (M 14 0) to (n - (k + 1)) (k + 1) (p + m) := by rw [hT (k + 1) (by omega) (by omega) q (by omega), ← hq]
    have hu : uO (mv_ M) c0_ (M 14 0) to n (k + 1) (p + m) = if wN (mv_ M) (M 14 0) to (n - (k + 1)) (k + 1) (p + m) = 0 then none else some 0 := vO_w (by omega) _ _ _
    rw [e (), Int.toNat_natCast, if_pos (by omega), hx, hu]
    generalize wN (mv_ M) (M 14 0) to (n - (k + 1)) (k + 1) (p + m) = w at hw ⊢
    have hz : wI (c_lcmp w 0) = 0 ↔ w = 0 := by rw [lc_eq, wL_of (x := w) (by omega) (by omega), show wL 0 = 0 from rfl]
    by_cases cw : w = 0
    · rw [if_pos (hz.mpr cw), if_pos cw, if_neg (fun h => by cases h)]
    · rw [if_neg (fun h => cw (hz.mp h)), if_neg cw, if_pos (show oadd (some 0) (c0_ k p m) = some 0 from rfl)]
theorem m_fr (k6 : Int → Int → Int → Int → Int → am_M → am_Rs) {M : am_M} (I : Ic M) {n : Nat} (hn : n ≤ 20) {to : Int} (hto : 0 ≤ to) (hT : Tw (M 11 0) (fun k p => wN (mv_ M) (M 14 0) to (n - k) k p) n 0 (M 65)) {k : Nat} (hk : k < n) {r v : Int} {p : Nat} (hp : (p : Int) ≤ M 11 0) (hu : uO (mv_ M) c0_ (M 14 0) to n k p = some 0) : XL_X9_firstRow_53_3 k6 1000 r v p k (-1) M = k6 r v p k (fmU (mv_ M) c0_ (M 14 0) to n k p) M := by
  have e1 : XL_X9_firstRow_53_3 k6 1000 r v p k (-1) M = _ := m_fr1 k6 I hn hto hT hk hp (m := -1) (Or.inl rfl) 999
  have e2 : XL_X9_firstRow_53_3 k6 999 r v p k (-1 + 1) M = _ := m_fr1 k6 I hn hto hT hk hp (m := -1 + 1) (Or.inr (Or.inl rfl)) 998
  have e3 : XL_X9_firstRow_53_3 k6 998 r v p k (-1 + 1 + 1) M = _ := m_fr1 k6 I hn hto hT hk hp (m := -1 + 1 + 1) (Or.inr (Or.inr rfl)) 997
  have h1 := stO_one (mv := mv_ M) (C := c0_) (d := M 14 0) (V := uO (mv_ M) c0_ (M 14 0) to n (k + 1)) (k := k) (p := p)
  rw [← uO_s hk, hu] at h1
  rw [e1, e2, e3]
  unfold fmU fmO
  rw [hu]
  by_cases c1 : byO (mv_ M) c0_ (M 14 0) (uO (mv_ M) c0_ (M 14 0) to n (k + 1)) k p (-1) = some 0
  · rw [if_pos c1, if_pos c1]
  · rw [if_neg c1, if_neg c1]
    by_cases c2 : byO (mv_ M) c0_ (M 14 0) (uO (mv_ M) c0_ (M 14 0) to n (k + 1)) k p 0 = some 0
    · rw [if_pos (show byO (mv_ M) c0_ (M 14 0) (uO (mv_ M) c0_ (M 14 0) to n (k + 1)) k p (-1 + 1) = some 0 from c2), if_pos c2]; rfl
    · rw [if_neg (show ¬ byO (mv_ M) c0_ (M 14 0) (uO (mv_ M) c0_ (M 14 0) to n (k + 1)) k p (-1 + 1) = some 0 from c2), if_neg c2]
      rcases h1 with h1 | h1 | h1
      · exact absurd h1 c1
      · exact absurd h1 c2
      · rw [if_pos (show byO (mv_ M) c0_ (M 14 0) (uO (mv_ M) c0_ (M 14 0) to n (k + 1)) k p (-1 + 1 + 1) = some 0 from h1), if_pos h1]; rfl
theorem u0_s {mv : Int → Int → Int → Int} {d to : Int} (hto : to ≠ -1) {n k : Nat} {p x : Int} (h : uO mv c0_ d to n k p = some x) : uO mv c0_ d to n k p = some 0 := by
  have e : uO mv c0_ d to n k p = if wN mv d to (n - k) k p = 0 then none else some 0 := vO_w hto _ _ _
  rw [e] at h ⊢
  split at h
  · cases h
  · rename_i c; rw [if_neg c]
theorem lp_fr (k7 : am_M → am_Rs) {M : am_M} (I : Ic M) {n : Nat} (hn : n ≤ 20) {to : Int} (hto : 0 ≤ to) (hT : Tw (M 11 0) (fun k p => wN (mv_ M) (M 14 0) to (n - k) k p) n 0 (M 65)) {r : Nat} (hr : r < 6) : ∀ (e n1 k : Nat) (p x : Int) (h : Nat → Int), k + e = n → e < n1 → (0 ≤ p ∧ p ≤ M 11 0) → uO (mv_ M) c0_ (M 14 0) to n k p = some x → XL_X9_firstRow_53_1 k7 n1 r n p k (am_row M 58 h) = k7 (am_row M 58 fun j => if 40 * r + k ≤ j ∧ j < 40 * r + n then ptO (mv_ M) c0_ (M 14 0) to n e k p (j - 40 * r) else h j) := by
  intro e
  induction e with
  | zero =>
    intro n1 k p x h hk hn1 hp hx
    obtain ⟨n1, rfl⟩ : ∃ m, n1 = m + 1 := ⟨n1 - 1, by omega⟩
    rw [XL_X9_firstRow_53_1, XB_X9_firstRow_53_1, wI_of (x := (k : Int)) (by omega) (by omega), wI_of (x := (n : Int)) (by omega) (by omega), if_neg (by omega)]
    refine congrArg (fun F => k7 (am_row M 58 F)) (funext fun j => ?_)
    rw [if_neg (by omega)]
  | succ e ih =>
    intro n1 k p x h hk hn1 hp hx
    have rs := I.rs
    obtain ⟨n1, rfl⟩ : ∃ m, n1 = m + 1 := ⟨n1 - 1, by omega⟩
    obtain ⟨q, rfl⟩ := Int.eq_ofNat_of_zero_le hp.1
    have I' : Ic (am_row M 58 h) := Kc.ic I (Kc.row (by decide))
    have fm : XL_X9_firstRow_53_3 (XB_X9_firstRow_53_6 (XL_X9_firstRow_53_1 k7 n1)) 1000 r n q k (-1) (am_row M 58 h) = XB_X9_firstRow_53_6 (XL_X9_firstRow_53_1 k7 n1) r n q k (fmU (mv_ M) c0_ (M 14 0) to n k q) (am_row M 58 h) := m_fr (XB_X9_firstRow_53_6 (XL_X9_firstRow_53_1 k7 n1)) I' hn hto hT (by omega) hp.2 (u0_s (by omega) hx)
    have hm := fmU_m (mv_ M) c0_ (M 14 0) to n k q
    obtain ⟨hs1, y, hy⟩ := fmU_s (show k < n by omega) hx
    have hb := mv_in (M := M) hm hp hs1
    generalize hF : fmU (mv_ M) c0_ (M 14 0) to n k q = F at fm hm hs1 hy hb
    have e1 : ∀ _ : Unit, wI (40 * (r : Int) + k) = ((40 * r + k : Nat) : Int) := fun _ => by rw [wI_of (by omega) (by omega)]; push_cast; omega
    rw [XL_X9_firstRow_53_1, XB_X9_firstRow_53_1, wI_of (x := (k : Int)) (by omega) (by omega), wI_of (x := (n : Int)) (by omega) (by omega), if_pos (by omega), fm, XB_X9_firstRow_53_6, e1 (), if_pos (by omega), Int.toNat_natCast, up_row, row_row, row_s, ← Int.natCast_succ, ih n1 (k + 1) ((q : Int) + F) y _ (by omega) (by omega) hb hy]
    refine congrArg (fun F => k7 (am_row M 58 F)) (funext fun j => ?_)
    by_cases c1 : j = 40 * r + k
    · subst c1
      rw [if_neg (by omega), if_pos rfl, if_pos (by omega), show 40 * r + k - 40 * r = k by omega, ptO, if_pos rfl, hF]
    · rw [if_neg c1]
      by_cases c2 : 40 * r + (k + 1) ≤ j ∧ j < 40 * r + n
      · rw [if_pos c2, if_pos (by omega), ptO, if_neg (by omega), hF]
      · rw [if_neg c2, if_neg (by omega)]
theorem sp_firstRow {M : am_M} (I : Ic M) {n : Nat} (hn : n ≤ 20) {to : Int} (hto : 0 ≤ to) (hT : Tw (M 11 0) (fun k p => wN (mv_ M) (M 14 0) to (n - k) k p) n 0 (M 65)) {r : Nat} (hr : r < 6) {x : Int} (hx : uO (mv_ M) c0_ (M 14 0) to n 0 (M 14 1) = some x) : ∃ h, X_X9_firstRow_53 r n M = some (0, am_row (am_up M 57 r n) 58 h) ∧ (∀ j, 40 * r ≤ j → j < 40 * r + n → h j = ptO (mv_ M) c0_ (M 14 0) to n n 0 (M 14 1) (j - 40 * r)) ∧ ∀ j, (j < 40 * r ∨ 40 * r + 40 ≤ j) → h j = M 58 j := by
  have mk := sp_makeRow (M := M) (r := (r : Int)) (n := (n : Int)) (by omega)
  rw [Int.toNat_natCast] at mk
  obtain ⟨N, hN⟩ : ∃ N, N = am_up M 57 r (n : Int) := ⟨_, rfl⟩
  rw [← hN] at mk
  have kN : Kc M N := by rw [hN]; exact Kc.up (by decide)
  have f : ∀ c, c ≠ 57 → N c = M c := fun c h => by rw [hN, up_a h]
  have l := lp_fr XB_X9_firstRow_53_7 (Kc.ic I kN) hn hto (r := r) (by rw [kN.mv, f 11 (by decide), f 14 (by decide), f 65 (by decide)]; exact hT) hr n 1000 0 (M 14 1) x (fun j => if 40 * (r : Int) ≤ (j : Int) ∧ (j : Int) < 40 * (r : Int) + 40 then 0 else M 58 j) (by omega) (by omega) (by rw [f 11 (by decide)]; exact I.r1) (by rw [kN.mv, f 14 (by decide)]; exact hx)
  rw [kN.mv, f 14 (by decide), show ((0 : Nat) : Int) = 0 from rfl] at l
  refine ⟨fun j => if 40 * r + 0 ≤ j ∧ j < 40 * r + n then ptO (mv_ M) c0_ (M 14 0) to n n 0 (M 14 1) (j - 40 * r) else if 40 * (r : Int) ≤ (j : Int) ∧ (j : Int) < 40 * (r : Int) + 40 then 0 else M 58 j, ?_, fun j h1 h2 => ?_, fun j h1 => ?_⟩
  · rw [X_X9_firstRow_53, XB_X9_firstRow_53_e, mk, ob]
    dsimp only
    rw [I.d1, l, XB_X9_firstRow_53_7, ← hN]
  · exact if_pos (by omega)
  · show (if _ then _ else if _ then _ else _) = _
    rw [if_neg (by omega), if_neg (by omega)]
/-! the fewest days -/
theorem lp_few (k5 : am_M → am_Rs) {M : am_M} (I : Ic M) {to : Nat} (hto : (to : Int) ≤ M 11 0) : ∀ (e n1 i : Nat) (x : Int), BS x (rc_ M i) → i + e = 21 → e < n1 → (∃ q, i ≤ q ∧ q ≤ 20 ∧ rc_ M q to ∧ (∀ k, i ≤ k → k < q → ¬ rc_ M k to) ∧ XL_X4_fewestDaysTo_36_1 k5 n1 to x i M = some ((q : Int), M)) ∨ ((∀ k, i ≤ k → k ≤ 20 → ¬ rc_ M k to) ∧ XL_X4_fewestDaysTo_36_1 k5 n1 to x i M = k5 M) := by
  intro e
  induction e with
  | zero =>
    intro n1 i x hx hi hn
    obtain ⟨n1, rfl⟩ : ∃ m, n1 = m + 1 := ⟨n1 - 1, by omega⟩
    refine Or.inr ⟨fun k h1 h2 => by omega, ?_⟩
    rw [XL_X4_fewestDaysTo_36_1, XB_X4_fewestDaysTo_36_1, wI_of (x := (i : Int)) (by omega) (by omega), if_pos (by omega)]
  | succ e ih =>
    intro n1 i x hx hi hn
    have rs := I.rs
    have r0 := I.r0
    obtain ⟨n1, rfl⟩ : ∃ m, n1 = m + 1 := ⟨n1 - 1, by omega⟩
    have hg := hx.get (k := to) (by omega)
    have st : XL_X4_fewestDaysTo_36_1 k5 (n1 + 1) to x i M = if wI (b_and_ (b_shr_ x to) 1) = 0 then (X_X4_spread_36 x (M 14 0 + i) M).bind fun z1 => XL_X4_fewestDaysTo_36_1 k5 n1 to z1.1 ((i + 1 : Nat) : Int) z1.2 else some ((i : Int), M) := by
      rw [XL_X4_fewestDaysTo_36_1, XB_X4_fewestDaysTo_36_1, wI_of (x := (i : Int)) (by omega) (by omega), if_neg (by omega)]; rfl
    by_cases c : rc_ M i to
    · refine Or.inl ⟨i, Nat.le_refl _, by omega, c, fun k h1 h2 => by omega, ?_⟩
      rw [st, if_neg (by rw [hg.1 c]; decide)]
    · obtain ⟨y, y1, y2⟩ := sp_spread I hx (d := M 14 0 + i) (by omega)
      have st2 : XL_X4_fewestDaysTo_36_1 k5 (n1 + 1) to x i M = XL_X4_fewestDaysTo_36_1 k5 n1 to y ((i + 1 : Nat) : Int) M := by
        rw [st, if_pos (hg.2 c), y1, ob]
      rw [st2]
      rcases ih n1 (i + 1) y y2 (by omega) (by omega) with ⟨q, a1, a2, a3, a4, a5⟩ | ⟨a1, a2⟩
      · refine Or.inl ⟨q, by omega, a2, a3, fun k h1 h2 => ?_, a5⟩
        rcases Nat.lt_or_eq_of_le h1 with h | h
        · exact a4 k h h2
        · subst h; exact c
      · refine Or.inr ⟨fun k h1 h2 => ?_, a2⟩
        rcases Nat.lt_or_eq_of_le h1 with h | h
        · exact a1 k h h2
        · subst h; exact c
theorem sp_few {M : am_M} (I : Ic M) {to : Nat} (hto : (to : Int) ≤ M 11 0) : (∃ q, q ≤ 20 ∧ rc_ M q to ∧ (∀ k, k < q → ¬ rc_ M k to) ∧ X_X4_fewestDaysTo_36 to M = some ((q : Int), M)) ∨ ((∀ k, k ≤ 20 → ¬ rc_ M k to) ∧ X_X4_fewestDaysTo_36 to M = some (-1, M)) := by
  have r1 := I.r1
  have rs := I.rs
  have := lp_few XB_X4_fewestDaysTo_36_5 I hto 21 1000 0 (b_shl_ 1 (M 14 1)) (BS.one (by omega)) (by omega) (by omega)
  rw [show ((0 : Nat) : Int) = 0 from rfl] at this
  rw [X_X4_fewestDaysTo_36, XB_X4_fewestDaysTo_36_e]
  rcases this with ⟨q, a1, a2, a3, a4, a5⟩ | ⟨a1, a2⟩
  · exact Or.inl ⟨q, a2, a3, fun k h => a4 k (by omega) h, a5⟩
  · exact Or.inr ⟨fun k h => a1 k (by omega) h, by rw [a2]; rfl⟩
theorem lp_soonM (k8 : Int → Int → Int → am_M → am_Rs) (k10 : am_M → am_Rs) {M : am_M} (I : Ic M) {to : Nat} (hto : (to : Int) ≤ M 11 0) (r : Int) : ∀ (e n1 i : Nat), i + e = 21 → e < n1 → (∀ q, i ≤ q → q ≤ 20 → rc_ M q to → (∀ k, i ≤ k → k < q → ¬ rc_ M k to) → XL_X9_soonest_53_6 k8 k10 n1 to r i M = k8 to r q M) ∧ ((∀ k, i ≤ k → k ≤ 20 → ¬ rc_ M k to) → XL_X9_soonest_53_6 k8 k10 n1 to r i M = k10 M) := by
  intro e
  induction e with
  | zero =>
    intro n1 i hi hn
    obtain ⟨n1, rfl⟩ : ∃ m, n1 = m + 1 := ⟨n1 - 1, by omega⟩
    refine ⟨fun q h1 h2 => by omega, fun _ => ?_⟩
    rw [XL_X9_soonest_53_6, XB_X9_soonest_53_6, wI_of (x := (i : Int)) (by omega) (by omega), if_pos (by omega)]
  | succ e ih =>
    intro n1 i hi hn
    have rs := I.rs
    obtain ⟨n1, rfl⟩ : ∃ m, n1 = m + 1 := ⟨n1 - 1, by omega⟩
    obtain ⟨x, x1, x2⟩ := sp_reachM I i (by omega)
    have hg := m_has x2 (k := to) (by omega) M
    have ih := ih n1 (i + 1) (by omega) (by omega)
    by_cases c : rc_ M i to
    · have st : XL_X9_soonest_53_6 k8 k10 (n1 + 1) to r i M = k8 to r i M := by
        rw [XL_X9_soonest_53_6, XB_X9_soonest_53_6, wI_of (x := (i : Int)) (by omega) (by omega), if_neg (by omega), x1, ob]
        dsimp +instances only
        rw [hg.1 c, ob]
        dsimp +instances only
        rw [if_neg (by decide)]
      refine ⟨fun q h1 h2 h3 h4 => ?_, fun h => absurd c (h i (Nat.le_refl _) (by omega))⟩
      rcases Nat.lt_or_eq_of_le h1 with h | h
      · exact absurd c (h4 i (Nat.le_refl _) h)
      · subst h; exact st
    · have st : XL_X9_soonest_53_6 k8 k10 (n1 + 1) to r i M = XL_X9_soonest_53_6 k8 k10 n1 to r ((i + 1 : Nat) : Int) M := by
        rw [XL_X9_soonest_53_6, XB_X9_soonest_53_6, wI_of (x := (i : Int)) (by omega) (by omega), if_neg (by omega), x1, ob]
        dsimp +instances only
        rw [hg.2 c, ob]
        dsimp +instances only
        rw [if_pos wI_0]; rfl
      rw [st]
      refine ⟨fun q h1 h2 h3 h4 => ?_, fun h => ih.2 fun k h1 h2 => h k (by omega) h2⟩
      rcases Nat.lt_or_eq_of_le h1 with h | h
      · exact ih.1 q h h2 h3 fun k k1 k2 => h4 k (by omega) k2
      · subst h; exact absurd h3 c
theorem rc_k {M N : am_M} (k : Kc M N) : ∀ n q, rc_ N n q ↔ rc_ M n q
  | 0, q => by unfold rc_; rw [k.1 14 (by decide)]
  | n + 1, q => by
    unfold rc_
    rw [k.mv, k.1 14 (by decide), k.1 11 (by decide)]
    constructor
    · rintro ⟨p, h1, h2⟩; exact ⟨p, (rc_k k n p).mp h1, h2⟩
    · rintro ⟨p, h1, h2⟩; exact ⟨p, (rc_k k n p).mpr h1, h2⟩
theorem eq_soonest {M : am_M} (I : Inv M) {p r : Int} (hp : iR p) (hr : iR r) : Step (X_X8_soonest_0 p r) (X_X9_soonest_53 p r) M := gd_soonest I hp hr fun h1 h2 h3 => by
  obtain ⟨to, rfl⟩ := Int.eq_ofNat_of_zero_le h1.1
  obtain ⟨r, rfl⟩ := Int.eq_ofNat_of_zero_le h2.1
  have rs := I.rs
  have r0 := I.r0
  have r1 := I.r1
  have hr6 : r < 6 := by omega
  have cS : X_X8_soonest_0 to r M = (X_X4_fewestDaysTo_36 to M).bind fun z4 => if wI z4.1 < 0 then some (-9, z4.2) else (X_X4_tollNothing_36 z4.2).bind fun z5 => (X_X4_solve_36 z4.1 to 0 z5.2).bind fun z6 => (X_X8_layPlan_0 z4.1 r z6.2).bind fun z7 => some (z4.1, z7.2) := by
    rw [X_X8_soonest_0, sp_isPlace_11 I.g11 hp, b2_t h1, ob]
    dsimp +instances only
    rw [if_neg (by decide), sp_isNumber_1 I.sh1 hr, b2_t h2, ob]
    dsimp +instances only
    rw [if_neg (by decide), sp_hasNoLand I.g11, b2_f h3, ob]
    dsimp +instances only
    rw [if_pos wI_0]
  have mS : ∀ N : am_M, N 53 1 = M 11 0 → X_X9_soonest_53 to r N = XL_X9_soonest_53_6 XB_X9_soonest_53_8 XB_X9_soonest_53_10 1000 to r 0 N := by
    intro N n1
    rw [X_X9_soonest_53, XB_X9_soonest_53_e, sp_isPlace (by rw [n1]; exact rs) hp, n1, b2_t h1, ob]
    dsimp +instances only
    rw [if_neg (by decide), sp_isRow _ hr, b2_t h2, ob]
    dsimp +instances only
    rw [if_neg (by decide), n1, wI_of (x := M 11 0) (by omega) (by omega), if_neg h3]
  rcases sp_few I.b.c (to := to) h1.2 with ⟨n, a1, a2, a3, a4⟩ | ⟨a1, a2⟩
  · obtain ⟨t, t1, t2⟩ := sp_tollNo M
    obtain ⟨N, hN⟩ : ∃ N, N = am_row M 37 t := ⟨_, rfl⟩
    have kN : Kp M N := by rw [hN]; exact Kp.row (by decide)
    have kN1 : Kp N (am_up N 36 6 0) := Kp.up (by decide)
    have PN : PlI (am_up N 36 6 0) 0 (fun _ => 0) := by
      refine ⟨Kc.ic I.b.c (kN.tr kN1).b.c, up_s, Or.inl rfl, fun p hp => ?_, ?_⟩
      · rw [up_a (by decide), hN, row_s]; exact t2 p hp
      · rw [cC_0]; intro k p m; unfold c0_; decide
    obtain ⟨f, s1, s2⟩ := sp_solve PN a1 (goal := to) (by omega)
    rw [kN.b.c.mv, kN.1 14 (by decide), kN.1 11 (by decide), cC_0] at s2
    obtain ⟨N2, hN2⟩ : ∃ N2, N2 = am_row (am_up N 36 6 0) 38 f := ⟨_, rfl⟩
    rw [← hN2] at s1
    have kN2 : Kp M N2 := by rw [hN2]; exact (kN.tr kN1).tr (Kp.row (by decide))
    have n2m : mv_ N2 = mv_ M := kN2.b.c.mv
    have n2_14 : N2 14 = M 14 := kN2.1 14 (by decide)
    have f38 : N2 38 = f := by rw [hN2, row_s]
    have hx : uO (mv_ M) c0_ (M 14 0) to n 0 (M 14 1) = some 0 := by
      have e : uO (mv_ M) c0_ (M 14 0) to n 0 (M 14 1) = if wN (mv_ M) (M 14 0) to (n - 0) 0 (M 14 1) = 0 then none else some 0 := vO_w (by omega) _ _ _
      rw [Nat.sub_zero] at e
      rw [e, if_neg (rc_w n to (Nat.le_refl _) a2 (by rw [Nat.sub_self]; unfold wN; rw [if_pos rfl]; decide))]
    have P2 : PlI N2 0 (fun _ => 0) := by rw [hN2]; exact PN.k (Kc.row (by decide)) rfl rfl
    have pl := sp_plan P2 (show Sh1 N2 by unfold Sh1; rw [kN2.1 1 (by decide), kN2.1 2 (by decide)]; exact I.sh1) a1 (goal := to) (r := r) (x := 0) (by rw [n2m, kN2.1 11 (by decide), n2_14, f38, cC_0]; exact s2) hr6 (by rw [n2m, n2_14, cC_0]; exact hx)
    rw [n2m, n2_14, kN2.1 3 (by decide), cC_0] at pl
    obtain ⟨M1, hM1⟩ : ∃ M1, M1 = am_row (am_up N2 2 r n) 3 fun j => if 40 * r ≤ j ∧ j < 40 * r + n then ptO (mv_ M) c0_ (M 14 0) to n n 0 (M 14 1) (j - 40 * r) else M 3 j := ⟨_, rfl⟩
    rw [← hM1] at pl
    have c0 : X_X8_soonest_0 to r M = some ((n : Int), M1) := by
      rw [cS, a4, ob]
      dsimp +instances only
      rw [wI_of (x := (n : Int)) (by omega) (by omega), if_neg (by omega), t1, ob]
      dsimp only
      rw [← hN, s1, ob]
      dsimp only
      rw [pl, ob]
    have kM1 : Kr M M1 := by rw [hM1]; exact (kN2.r.tr (Kr.up (by decide))).tr (Kr.row (by decide))
    have kc := kM1.c
    have B : Ic M1 := Kc.ic I.b.c kc
    have e53 : M1 53 1 = M 11 0 := by rw [kM1.2.1 1 (by decide), I.es]
    have m1 := (lp_soonM XB_X9_soonest_53_8 XB_X9_soonest_53_10 B (to := to) (by rw [kc.1 11 (by decide)]; exact h1.2) (r : Int) 21 1000 0 (by omega) (by omega)).1 n (by omega) a1 ((rc_k kc n to).mpr a2) (fun k _ h => fun w => a3 k h ((rc_k kc k to).mp w))
    rw [show ((0 : Nat) : Int) = 0 from rfl] at m1
    obtain ⟨g, w1, w2⟩ := sp_layWays B a1 (to := to) (by omega)
    rw [kc.mv, kc.1 11 (by decide), kc.1 14 (by decide)] at w2
    obtain ⟨X, hX⟩ : ∃ X, X = am_row M1 65 g := ⟨_, rfl⟩
    rw [← hX] at w1
    have kX : Kp M1 X := by rw [hX]; exact Kp.row (by decide)
    have kcX : Kc M X := kc.tr kX.b.c
    have x65 : X 65 = g := by rw [hX, row_s]
    obtain ⟨h, y1, y2, y3⟩ := sp_firstRow (Kc.ic I.b.c kcX) a1 (to := to) (by omega) (r := r) (x := 0) (by rw [kcX.mv, kcX.1 11 (by decide), kcX.1 14 (by decide), x65]; exact w2) hr6 (by rw [kcX.mv, kcX.1 14 (by decide)]; exact hx)
    rw [kcX.mv, kcX.1 14 (by decide)] at y2
    have m0 : X_X9_soonest_53 to r M1 = some ((n : Int), am_row (am_up X 57 r n) 58 h) := by
      rw [mS M1 e53, m1, XB_X9_soonest_53_8, w1, ob]
      dsimp only
      rw [y1, ob]
    exact ⟨_, _, _, _, c0, m0, rfl, inv_plan I hr6 (by omega) (fun j => iR_p (ptO_r _ _ _ _ _ _ _ _ j)) kN2 hM1 kX y2 y3⟩
  · have c0 : X_X8_soonest_0 to r M = some (-9, M) := by
      rw [cS, a2, ob]
      dsimp +instances only
      rw [if_pos (by decide)]
    have m0 := (lp_soonM XB_X9_soonest_53_8 XB_X9_soonest_53_10 I.b.c h1.2 (r : Int) 21 1000 0 (by omega) (by omega)).2 (fun k _ h => a1 k h)
    rw [show ((0 : Nat) : Int) = 0 from rfl] at m0
    refine st_same I c0 (w := -9) ?_ rfl
    rw [mS M I.es, m0]; rfl
end
