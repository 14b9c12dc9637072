/-! The best of moves to come: a table that both sides lay. -/
noncomputable def enc (F : Int) : Option Int → Int
  | none => F
  | some x => x
noncomputable def omin : Option Int → Option Int → Option Int
  | none, b => b
  | some x, none => some x
  | some x, some y => if y < x then some y else some x
noncomputable def oadd : Option Int → Int → Option Int
  | none, _ => none
  | some x, c => some (x + c)
noncomputable def okO (v : Option Int) (b : Int) : Prop := ∀ x, v = some x → -b ≤ x ∧ x ≤ b
theorem okO.n (b : Int) : okO none b := fun _ h => by cases h
theorem okO.le {v : Option Int} {b c : Int} (h : okO v b) (hc : b ≤ c) : okO v c := fun x hx => by have := h x hx; omega
theorem okO.min {v w : Option Int} {b : Int} (h : okO v b) (g : okO w b) : okO (omin v w) b := by
  intro x hx
  cases v with
  | none => exact g x hx
  | some y =>
    cases w with
    | none => exact h x hx
    | some z =>
      change (if z < y then some z else some y) = some x at hx
      split at hx
      · exact g x hx
      · exact h x hx
theorem okO.add {v : Option Int} {b c e : Int} (h : okO v b) (hc : -e ≤ c ∧ c ≤ e) : okO (oadd v c) (b + e) := by
  intro x hx
  cases v with
  | none => cases hx
  | some y =>
    have := h y rfl
    cases hx
    omega
theorem enc_r {F b : Int} {v : Option Int} (h : okO v b) (hb : 0 ≤ b ∧ b ≤ F) : -b ≤ enc F v ∧ enc F v ≤ F := by
  cases v with
  | none => show -b ≤ F ∧ F ≤ F; omega
  | some x => have := h x rfl; show -b ≤ x ∧ x ≤ F; omega
theorem wIe {v : Option Int} (h : okO v 40000) : wI (enc 1000000 v) = enc 1000000 v := by
  have := enc_r h (F := 1000000) (by decide)
  generalize enc 1000000 v = x at this ⊢
  exact wI_of (by omega) (by omega)
theorem wIm {v : Option Int} (h : okO v 40000) : wI (enc 1048576 v) = enc 1048576 v := by
  have := enc_r h (F := 1048576) (by decide)
  generalize enc 1048576 v = x at this ⊢
  exact wI_of (by omega) (by omega)
theorem enc_min {F b : Int} {v w : Option Int} (h : okO v b) (g : okO w b) (hb : b < F) : (if enc F w < enc F v then enc F w else enc F v) = enc F (omin v w) := by
  cases v with
  | none =>
    show (if enc F w < F then enc F w else F) = enc F w
    cases w with
    | none => show (if F < F then F else F) = F; split <;> rfl
    | some y =>
      have := g y rfl
      show (if y < F then y else F) = y
      rw [if_pos (by omega)]
  | some x =>
    have := h x rfl
    cases w with
    | none => show (if F < x then F else x) = x; rw [if_neg (by omega)]
    | some y =>
      show (if y < x then y else x) = enc F (if y < x then some y else some x)
      split <;> rfl
theorem enc_inj {F b : Int} {v w : Option Int} (h : okO v b) (g : okO w b) (hb : b < F) : enc F v = enc F w ↔ v = w := by
  constructor
  · intro e
    cases v with
    | none =>
      cases w with
      | none => rfl
      | some y => have := g y rfl; have e : F = y := e; omega
    | some x =>
      have := h x rfl
      cases w with
      | none => have e : x = F := e; omega
      | some y => have e : x = y := e; rw [e]
  · intro e; rw [e]
/-- by a move: what lies behind it, and what it costs -/
noncomputable def byO (mv : Int → Int → Int → Int) (C : Nat → Int → Int → Int) (d : Int) (V : Int → Option Int) (k : Nat) (p m : Int) : Option Int := if mv p m (d + k) = -1 then none else oadd (V (p + m)) (C k p m)
noncomputable def stO (mv : Int → Int → Int → Int) (C : Nat → Int → Int → Int) (d : Int) (V : Int → Option Int) (k : Nat) (p : Int) : Option Int := omin (omin (omin none (byO mv C d V k p (-1))) (byO mv C d V k p 0)) (byO mv C d V k p 1)
noncomputable def vO (mv : Int → Int → Int → Int) (C : Nat → Int → Int → Int) (d : Int) (g : Int → Option Int) : Nat → Nat → Int → Option Int
  | 0, _, p => g p
  | e + 1, k, p => stO mv C d (vO mv C d g e (k + 1)) k p
theorem byO_ok {mv : Int → Int → Int → Int} {C : Nat → Int → Int → Int} {d : Int} {V : Int → Option Int} {k : Nat} {p m b : Int} (hV : ∀ q, okO (V q) b) (hC : ∀ k p m, -2000 ≤ C k p m ∧ C k p m ≤ 2000) : okO (byO mv C d V k p m) (b + 2000) := by
  unfold byO
  split
  · exact okO.n _
  · exact (hV _).add (hC _ _ _)
theorem stO_ok {mv : Int → Int → Int → Int} {C : Nat → Int → Int → Int} {d : Int} {V : Int → Option Int} {k : Nat} {p b : Int} (hV : ∀ q, okO (V q) b) (hC : ∀ k p m, -2000 ≤ C k p m ∧ C k p m ≤ 2000) : okO (stO mv C d V k p) (b + 2000) :=
  (((okO.n _).min (byO_ok hV hC)).min (byO_ok hV hC)).min (byO_ok hV hC)
theorem vO_ok {mv : Int → Int → Int → Int} {C : Nat → Int → Int → Int} {d : Int} {g : Int → Option Int} (hg : ∀ p, okO (g p) 0) (hC : ∀ k p m, -2000 ≤ C k p m ∧ C k p m ≤ 2000) : ∀ (e k : Nat) (p : Int), okO (vO mv C d g e k p) (2000 * e)
  | 0, k, p => (hg p).le (by omega)
  | e + 1, k, p => (stO_ok (fun q => vO_ok hg hC e (k + 1) q) hC).le (by omega)
theorem stO_one {mv : Int → Int → Int → Int} {C : Nat → Int → Int → Int} {d : Int} {V : Int → Option Int} {k : Nat} {p : Int} : byO mv C d V k p (-1) = stO mv C d V k p ∨ byO mv C d V k p 0 = stO mv C d V k p ∨ byO mv C d V k p 1 = stO mv C d V k p := by
  unfold stO
  generalize byO mv C d V k p (-1) = a
  generalize byO mv C d V k p 0 = b
  generalize byO mv C d V k p 1 = c
  have key : ∀ x y : Option Int, x = omin x y ∨ y = omin x y := by
    intro x y
    cases x with
    | none => exact Or.inr rfl
    | some x =>
      cases y with
      | none => exact Or.inl rfl
      | some y =>
        show some x = (if y < x then some y else some x) ∨ some y = (if y < x then some y else some x)
        split
        · exact Or.inr rfl
        · exact Or.inl rfl
  rcases key (omin (omin none a) b) c with h | h
  · rw [← h]
    rcases key (omin none a) b with h2 | h2
    · rw [← h2]; exact Or.inl rfl
    · exact Or.inr (Or.inl h2)
  · exact Or.inr (Or.inr h)
/-- what a move costs the class: rudeness if that counts, and the toll -/
noncomputable def cC (br : Int) (mv : Int → Int → Int → Int) (D : Int → Int) (d : Int) (k : Nat) (p m : Int) : Int := (if br = 0 then 0 else mv p m (d + k)) + (if (d + k) % 10 = 9 ∧ d + k < 40 then D (p + m) else 0)
/-- the class's plan stands ready: the land, whether rudeness counts, the tolls -/
noncomputable def PlI (N : am_M) (br : Int) (D : Int → Int) : Prop := Ic N ∧ N 36 6 = br ∧ (br = 0 ∨ br = 1) ∧ (∀ p : Nat, p < 13 → N 37 p = D p) ∧ ∀ k p m, -2000 ≤ cC br (mv_ N) D (N 14 0) k p m ∧ cC br (mv_ N) D (N 14 0) k p m ≤ 2000
theorem c_from {M : am_M} {k : Nat} (hk : k ≤ 20) {q : Int} (hq : -1 ≤ q ∧ q ≤ 13) : ∃ x, X_X4_costFrom_36 k q M = some (x, M) ∧ ∀ n : Nat, n < 13 → q = n → x = M 38 (13 * k + n) := by
  rw [X_X4_costFrom_36, wI_of (x := (k : Int)) (by omega) (by omega), wI_of (x := q) (by omega) (by omega), if_neg (by omega), if_neg (by omega)]
  by_cases c1 : q < 0
  · rw [if_pos c1]; exact ⟨_, rfl, fun n _ h => by omega⟩
  · rw [if_neg c1]
    by_cases c2 : q < 13
    · obtain ⟨j, rfl⟩ := Int.eq_ofNat_of_zero_le (show 0 ≤ q by omega)
      have e : ∀ _ : Unit, wI ((k : Int) * 13 + j) = ((13 * k + j : Nat) : Int) := fun _ => by rw [wI_of (by omega) (by omega)]; push_cast; omega
      rw [if_pos c2, e (), if_pos (by omega), Int.toNat_natCast]
      exact ⟨_, rfl, fun n _ h => by rw [show n = j by omega]⟩
    · rw [if_neg c2]; exact ⟨_, rfl, fun n _ h => by omega⟩
theorem c_costBy {N : am_M} {br : Int} {D : Int → Int} (P : PlI N br D) {f : Nat → Int} {V : Int → Option Int} {k : Nat} (hk : k < 20) (hV : ∀ q : Nat, (q : Int) ≤ N 11 0 → f (13 * (k + 1) + q) = enc 1000000 (V q)) (hO : ∀ q, okO (V q) 38000) {p m : Int} (hp : 0 ≤ p ∧ p ≤ N 11 0) (hm : m = -1 ∨ m = 0 ∨ m = 1) : X_X4_costBy_36 k p m (am_row N 38 f) = some (enc 1000000 (byO (mv_ N) (cC br (mv_ N) D (N 14 0)) (N 14 0) V k p m), am_row N 38 f) := by
  obtain ⟨I, h1, h2, h3, h4⟩ := P
  have r0 := I.r0
  have rs := I.rs
  have B : Ic (am_row N 38 f) := Kc.ic I (Kc.row (by decide))
  have hr := mv_r N p m (N 14 0 + k)
  have s1 : X_X2_rudeness_11 p m (N 14 0 + k) (am_row N 38 f) = some (mv_ N p m (N 14 0 + k), am_row N 38 f) := kc_rud B hp (by omega) (by omega)
  obtain ⟨x, x1, x2⟩ := c_from (M := am_row N 38 f) (k := k + 1) (by omega) (q := p + m) (by omega)
  rw [X_X4_costBy_36, show (am_row N 38 f) 14 0 = N 14 0 from rfl, s1, ob]
  dsimp +instances only
  rw [← Int.natCast_succ, x1, ob]
  dsimp +instances only
  rw [wI_of (x := mv_ N p m (N 14 0 + k)) (by omega) (by omega)]
  unfold byO
  by_cases c : mv_ N p m (N 14 0 + k) = -1
  · rw [if_pos (by omega), if_pos c]; rfl
  · rw [if_neg (by omega), if_neg c]
    have hb := mv_in hm hp c
    obtain ⟨q, hq⟩ := Int.eq_ofNat_of_zero_le hb.1
    have hx : x = enc 1000000 (V (p + m)) := by
      rw [x2 q (by omega) hq, row_s, hV q (by omega), ← hq]
    have ho := hO (p + m)
    have t := c_tollAt (M := am_row N 38 f) (D := D) h3 (b := p + m) (d := N 14 0 + k) (by omega) (by omega)
    have e6 : (am_row N 38 f) 36 6 = br := h1
    have h4' := h4 k p m
    generalize hW : V (p + m) = W at hx ho ⊢
    cases W with
    | none =>
      rw [hx, if_neg (by decide)]; rfl
    | some y =>
      have hy := ho y rfl
      rw [hx]
      show (if wI y < 1000000 then _ else _) = _
      rw [wI_of (x := y) (by omega) (by omega), if_pos (by omega), e6, t, ob, ob]
      dsimp only
      unfold cC
      rcases h2 with rfl | rfl
      · rw [if_pos wI_0, if_pos rfl]
        show some (y + 0 + _, _) = some (y + (0 + _), _)
        rw [Int.add_assoc]
      · rw [if_neg (show ¬ wI 1 = 0 by decide), if_neg (show ¬ (1 : Int) = 0 by decide)]
        show some (y + _ + _, _) = some (y + (_ + _), _)
        rw [Int.add_assoc]
theorem c_lc1 (kk : Int → am_M → am_Rs) {N : am_M} {br : Int} {D : Int → Int} (P : PlI N br D) {f : Nat → Int} {V : Int → Option Int} {k : Nat} (hk : k < 20) (hV : ∀ q : Nat, (q : Int) ≤ N 11 0 → f (13 * (k + 1) + q) = enc 1000000 (V q)) (hO : ∀ q, okO (V q) 38000) {p m : Int} (hp : 0 ≤ p ∧ p ≤ N 11 0) (hm : m = -1 ∨ m = 0 ∨ m = 1) (n : Nat) {a : Option Int} (ha : okO a 40000) : XL_X4_leastCost_36_1 kk (n + 1) k p (enc 1000000 a) m (am_row N 38 f) = XL_X4_leastCost_36_1 kk n k p (enc 1000000 (omin a (byO (mv_ N) (cC br (mv_ N) D (N 14 0)) (N 14 0) V k p m))) (m + 1) (am_row N 38 f) := by
  have hb : okO (byO (mv_ N) (cC br (mv_ N) D (N 14 0)) (N 14 0) V k p m) 40000 := byO_ok hO P.2.2.2.2
  rw [XL_X4_leastCost_36_1, XB_X4_leastCost_36_1, wI_of (x := m) (by omega) (by omega), if_neg (by omega), c_costBy P hk hV hO hp hm, ob]
  dsimp +instances only
  rw [wIe ha, wIe hb, enc_min ha hb (by decide)]
theorem c_least {N : am_M} {br : Int} {D : Int → Int} (P : PlI N br D) {f : Nat → Int} {V : Int → Option Int} {k : Nat} (hk : k < 20) (hV : ∀ q : Nat, (q : Int) ≤ N 11 0 → f (13 * (k + 1) + q) = enc 1000000 (V q)) (hO : ∀ q, okO (V q) 38000) {p : Int} (hp : 0 ≤ p ∧ p ≤ N 11 0) : X_X4_leastCost_36 k p (am_row N 38 f) = some (enc 1000000 (stO (mv_ N) (cC br (mv_ N) D (N 14 0)) (N 14 0) V k p), am_row N 38 f) := by
  have hb : ∀ m, okO (byO (mv_ N) (cC br (mv_ N) D (N 14 0)) (N 14 0) V k p m) 40000 := fun m => byO_ok hO P.2.2.2.2
  have e1 : XL_X4_leastCost_36_1 XB_X4_leastCost_36_3 1000 k p 1000000 (-1) (am_row N 38 f) = _ := c_lc1 XB_X4_leastCost_36_3 P hk hV hO hp (m := -1) (Or.inl rfl) 999 (a := none) (okO.n _)
  have e2 : ∀ a, okO a 40000 → XL_X4_leastCost_36_1 XB_X4_leastCost_36_3 999 k p (enc 1000000 a) (-1 + 1) (am_row N 38 f) = _ := fun a ha => c_lc1 XB_X4_leastCost_36_3 P hk hV hO hp (m := -1 + 1) (Or.inr (Or.inl rfl)) 998 ha
  have e3 : ∀ a, okO a 40000 → XL_X4_leastCost_36_1 XB_X4_leastCost_36_3 998 k p (enc 1000000 a) (-1 + 1 + 1) (am_row N 38 f) = _ := fun a ha => c_lc1 XB_X4_leastCost_36_3 P hk hV hO hp (m := -1 + 1 + 1) (Or.inr (Or.inr rfl)) 997 ha
  rw [X_X4_leastCost_36, XB_X4_leastCost_36_e, e1, e2 _ ((okO.n _).min (hb _)), e3 _ (((okO.n _).min (hb _)).min (hb _)), XL_X4_leastCost_36_1, XB_X4_leastCost_36_1, if_pos (by decide), XB_X4_leastCost_36_3]
  rfl
theorem c_set {N : am_M} {f : Nat → Int} {k p : Nat} (hk : k ≤ 20) (hp : p < 13) (v : Int) : X_X4_setCost_36 k p v (am_row N 38 f) = some (0, am_row N 38 fun j => if j = 13 * k + p then v else f j) := by
  have e : ∀ _ : Unit, wI ((k : Int) * 13 + p) = ((13 * k + p : Nat) : Int) := fun _ => by rw [wI_of (by omega) (by omega)]; push_cast; omega
  rw [X_X4_setCost_36, wI_of (x := (k : Int)) (by omega) (by omega), wI_of (x := (p : Int)) (by omega) (by omega), if_neg (by omega), if_neg (by omega), if_neg (by omega), if_pos (by omega), e (), if_pos (by omega), Int.toNat_natCast, up_row, row_row, row_s]
/-- a table that is laid from row k0 on -/
noncomputable def Tb (F s : Int) (U : Nat → Int → Option Int) (n k0 : Nat) (f : Nat → Int) : Prop := ∀ k, k0 ≤ k → k ≤ n → ∀ p : Nat, (p : Int) ≤ s → f (13 * k + p) = enc F (U k p)
theorem lp_s1 (kk : Int → am_M → am_Rs) {N : am_M} (I : Ic N) {g : Int → Option Int} {goal : Int} {n : Nat} (hn : n ≤ 20) (hg : ∀ p : Nat, (p : Int) ≤ N 11 0 → enc 1000000 (g p) = if goal = -1 ∨ goal = p then 0 else 1000000) (hgo : -1 ≤ goal ∧ goal ≤ 12) : ∀ (e n1 i : Nat) (f : Nat → Int), (i : Int) + e = N 11 0 + 1 → e < n1 → (∀ p : Nat, p < i → f (13 * n + p) = enc 1000000 (g p)) → ∃ f', XL_X4_solve_36_1 kk n1 n goal i (am_row N 38 f) = kk n (am_row N 38 f') ∧ ∀ p : Nat, (p : Int) ≤ N 11 0 → f' (13 * n + p) = enc 1000000 (g p) := by
  intro e
  induction e with
  | zero =>
    intro n1 i f hi hn1 hf
    have rs := I.rs
    obtain ⟨n1, rfl⟩ : ∃ m, n1 = m + 1 := ⟨n1 - 1, by omega⟩
    refine ⟨f, ?_, fun p hp => hf p (by omega)⟩
    rw [XL_X4_solve_36_1, XB_X4_solve_36_1, show (am_row N 38 f) 11 0 = N 11 0 from rfl, wI_of (x := (i : Int)) (by omega) (by omega), wI_of (x := N 11 0) (by omega) (by omega), if_pos (by omega)]
  | succ e ih =>
    intro n1 i f hi hn1 hf
    have rs := I.rs
    obtain ⟨n1, rfl⟩ : ∃ m, n1 = m + 1 := ⟨n1 - 1, by omega⟩
    have hgi := hg i (by omega)
    obtain ⟨f', a1, a2⟩ := ih n1 (i + 1) (fun j => if j = 13 * n + i then enc 1000000 (g i) else f j) (by push_cast; omega) (by omega) (fun p hp => by
      by_cases c : p = i
      · subst c; rw [if_pos rfl]
      · rw [if_neg (by omega)]; exact hf p (by omega))
    refine ⟨f', ?_, a2⟩
    rw [XL_X4_solve_36_1, XB_X4_solve_36_1, show (am_row N 38 f) 11 0 = N 11 0 from rfl, wI_of (x := (i : Int)) (by omega) (by omega), wI_of (x := N 11 0) (by omega) (by omega), if_neg (by omega), wI_of (x := goal) (by omega) (by omega)]
    by_cases c1 : goal = -1
    · rw [if_pos (Or.inl c1)] at hgi
      rw [hgi] at a1
      rw [if_pos c1, c_set hn (by omega), ob]
      exact a1
    · rw [if_neg c1]
      by_cases c2 : goal = i
      · rw [if_pos (Or.inr c2)] at hgi
        rw [hgi] at a1
        rw [if_pos c2, c_set hn (by omega), ob]
        exact a1
      · rw [if_neg (by omega)] at hgi
        rw [hgi] at a1
        rw [if_neg c2, c_set hn (by omega), ob]
        exact a1
theorem lp_s10 (kk : Int → am_M → am_Rs) {N : am_M} {br : Int} {D : Int → Int} (P : PlI N br D) {U : Nat → Int → Option Int} {n k : Nat} (hn : n ≤ 20) (hk : k < n) (hU : ∀ p, U k p = stO (mv_ N) (cC br (mv_ N) D (N 14 0)) (N 14 0) (U (k + 1)) k p) (hO : ∀ q, okO (U (k + 1) q) 38000) : ∀ (e n1 i : Nat) (f : Nat → Int), (i : Int) + e = N 11 0 + 1 → e < n1 → Tb 1000000 (N 11 0) U n (k + 1) f → (∀ p : Nat, p < i → f (13 * k + p) = enc 1000000 (U k p)) → ∃ f', XL_X4_solve_36_10 kk n1 k i (am_row N 38 f) = kk k (am_row N 38 f') ∧ Tb 1000000 (N 11 0) U n k f' := by
  intro e
  induction e with
  | zero =>
    intro n1 i f hi hn1 hT hf
    have rs := P.1.rs
    obtain ⟨n1, rfl⟩ : ∃ m, n1 = m + 1 := ⟨n1 - 1, by omega⟩
    refine ⟨f, ?_, fun k' h1 h2 p hp => ?_⟩
    · rw [XL_X4_solve_36_10, XB_X4_solve_36_10, show (am_row N 38 f) 11 0 = N 11 0 from rfl, wI_of (x := (i : Int)) (by omega) (by omega), wI_of (x := N 11 0) (by omega) (by omega), if_pos (by omega)]
    · rcases Nat.lt_or_eq_of_le h1 with h | h
      · exact hT k' h h2 p hp
      · subst h; exact hf p (by omega)
  | succ e ih =>
    intro n1 i f hi hn1 hT hf
    have rs := P.1.rs
    obtain ⟨n1, rfl⟩ : ∃ m, n1 = m + 1 := ⟨n1 - 1, by omega⟩
    obtain ⟨f', a1, a2⟩ := ih n1 (i + 1) (fun j => if j = 13 * k + i then enc 1000000 (U k i) else f j) (by push_cast; omega) (by omega) (fun k' h1 h2 p hp => by show (if 13 * k' + p = 13 * k + i then _ else _) = _; rw [if_neg (by omega)]; exact hT k' h1 h2 p hp) (fun p hp => by
      by_cases c : p = i
      · subst c; rw [if_pos rfl]
      · rw [if_neg (by omega)]; exact hf p (by omega))
    refine ⟨f', ?_, a2⟩
    rw [XL_X4_solve_36_10, XB_X4_solve_36_10, show (am_row N 38 f) 11 0 = N 11 0 from rfl, wI_of (x := (i : Int)) (by omega) (by omega), wI_of (x := N 11 0) (by omega) (by omega), if_neg (by omega), c_least P (V := U (k + 1)) (by omega) (fun q hq => hT (k + 1) (by omega) (by omega) q hq) hO (by omega), ob]
    dsimp only
    rw [c_set (by omega) (by omega), ob, ← hU]
    exact a1
theorem lp_s8 (kk : am_M → am_Rs) {N : am_M} {br : Int} {D : Int → Int} (P : PlI N br D) {U : Nat → Int → Option Int} {n : Nat} (hn : n ≤ 20) (hU : ∀ k, k < n → ∀ p, U k p = stO (mv_ N) (cC br (mv_ N) D (N 14 0)) (N 14 0) (U (k + 1)) k p) (hO : ∀ k, 1 ≤ k → ∀ q, okO (U k q) 38000) : ∀ (e n1 : Nat) (f : Nat → Int), e ≤ n → e < n1 → Tb 1000000 (N 11 0) U n e f → ∃ f', XL_X4_solve_36_8 kk n1 ((e : Int) - 1) (am_row N 38 f) = kk (am_row N 38 f') ∧ Tb 1000000 (N 11 0) U n 0 f' := by
  intro e
  induction e with
  | zero =>
    intro n1 f he hn1 hT
    obtain ⟨n1, rfl⟩ : ∃ m, n1 = m + 1 := ⟨n1 - 1, by omega⟩
    refine ⟨f, ?_, hT⟩
    rw [XL_X4_solve_36_8, XB_X4_solve_36_8, if_pos (by decide)]
  | succ e ih =>
    intro n1 f he hn1 hT
    have rs := P.1.rs
    obtain ⟨n1, rfl⟩ : ∃ m, n1 = m + 1 := ⟨n1 - 1, by omega⟩
    obtain ⟨f1, a1, a2⟩ := lp_s10 (XB_X4_solve_36_12 (XL_X4_solve_36_8 kk n1)) P (U := U) (n := n) (k := e) hn (by omega) (hU e (by omega)) (hO (e + 1) (by omega)) (N 11 0 + 1).toNat 1000 0 f (by omega) (by omega) hT (fun p hp => by omega)
    obtain ⟨f', b1, b2⟩ := ih n1 f1 (by omega) (by omega) a2
    refine ⟨f', ?_, b2⟩
    rw [show ((0 : Nat) : Int) = 0 from rfl] at a1
    rw [XL_X4_solve_36_8, XB_X4_solve_36_8, show ((e + 1 : Nat) : Int) - 1 = (e : Int) by omega, wI_of (x := (e : Int)) (by omega) (by omega), if_neg (by omega), a1, XB_X4_solve_36_12]
    exact b1
noncomputable def gO (goal p : Int) : Option Int := if goal = -1 ∨ goal = p then some 0 else none
theorem gO_ok (goal p : Int) : okO (gO goal p) 0 := by
  unfold gO
  intro x hx
  split at hx
  · cases hx; decide
  · cases hx
/-- the table's values: n days in all, from the last one back -/
noncomputable def uO (mv : Int → Int → Int → Int) (C : Nat → Int → Int → Int) (d goal : Int) (n k : Nat) (p : Int) : Option Int := vO mv C d (gO goal) (n - k) k p
theorem uO_s {mv : Int → Int → Int → Int} {C : Nat → Int → Int → Int} {d goal : Int} {n k : Nat} (h : k < n) (p : Int) : uO mv C d goal n k p = stO mv C d (uO mv C d goal n (k + 1)) k p := by
  unfold uO
  rw [show n - k = (n - (k + 1)) + 1 by omega]
  rfl
theorem uO_ok {mv : Int → Int → Int → Int} {C : Nat → Int → Int → Int} {d goal : Int} {n : Nat} (hn : n ≤ 20) (hC : ∀ k p m, -2000 ≤ C k p m ∧ C k p m ≤ 2000) (k : Nat) (p : Int) : okO (uO mv C d goal n k p) 40000 := (vO_ok (gO_ok goal) hC (n - k) k p).le (by omega)
theorem uO_ok1 {mv : Int → Int → Int → Int} {C : Nat → Int → Int → Int} {d goal : Int} {n : Nat} (hn : n ≤ 20) (hC : ∀ k p m, -2000 ≤ C k p m ∧ C k p m ≤ 2000) {k : Nat} (hk : 1 ≤ k) (p : Int) : okO (uO mv C d goal n k p) 38000 := (vO_ok (gO_ok goal) hC (n - k) k p).le (by omega)
theorem sp_solve {N : am_M} {br : Int} {D : Int → Int} (P : PlI (am_up N 36 6 br) br D) {n : Nat} (hn : n ≤ 20) {goal : Int} (hgo : -1 ≤ goal ∧ goal ≤ 12) : ∃ f, X_X4_solve_36 n goal br N = some (0, am_row (am_up N 36 6 br) 38 f) ∧ Tb 1000000 (N 11 0) (uO (mv_ N) (cC br (mv_ N) D (N 14 0)) (N 14 0) goal n) n 0 f := by
  have rs := P.1.rs
  have hC := P.2.2.2.2
  obtain ⟨f1, a1, a2⟩ := lp_s1 (XB_X4_solve_36_7 (XL_X4_solve_36_8 XB_X4_solve_36_13 1000)) P.1 (g := gO goal) (goal := goal) hn (fun p _ => by unfold gO; split <;> rfl) hgo ((N 11 0 + 1).toNat) 1000 0 (N 38) (show ((0 : Nat) : Int) + _ = N 11 0 + 1 by have : 0 ≤ N 11 0 := rs.1; omega) (by have : N 11 0 ≤ 12 := rs.2; omega) (fun p hp => by omega)
  obtain ⟨f2, b1, b2⟩ := lp_s8 XB_X4_solve_36_13 P (U := uO (mv_ N) (cC br (mv_ N) D (N 14 0)) (N 14 0) goal n) hn (fun k hk p => uO_s hk p) (fun k hk q => uO_ok1 hn hC hk q) n 1000 f1 (Nat.le_refl _) (by omega) (fun k h1 h2 p hp => by
    have : k = n := by omega
    subst this
    rw [a2 p hp]
    unfold uO
    rw [Nat.sub_self]; rfl)
  refine ⟨f2, ?_, b2⟩
  rw [show ((0 : Nat) : Int) = 0 from rfl] at a1
  have e : am_row (am_up N 36 6 br) 38 (N 38) = am_up N 36 6 br := row_self (am_up N 36 6 br) 38
  rw [e] at a1
  rw [X_X4_solve_36, XB_X4_solve_36_e, if_pos P.2.2.1, a1, XB_X4_solve_36_7, b1]
  rfl
