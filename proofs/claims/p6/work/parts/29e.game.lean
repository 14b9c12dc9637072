/-! What to say by turns. -/
/-- the first of 0 .. 3 at which f is least -/
noncomputable def sel (f : Int → Int) (b s : Int) : Int := if f b < f s then b else s
theorem sel_r {f : Int → Int} {b s : Int} (hb : 0 ≤ b ∧ b ≤ 3) (hs : 0 ≤ s ∧ s ≤ 3) : 0 ≤ sel f b s ∧ sel f b s ≤ 3 := by
  unfold sel
  split
  · exact hb
  · exact hs
noncomputable def pk (f : Int → Int) : Int := sel f 3 (sel f 2 (sel f 1 0))
theorem pk_r (f : Int → Int) : 0 ≤ pk f ∧ pk f ≤ 3 := sel_r (by decide) (sel_r (by decide) (sel_r (by decide) (by decide)))
noncomputable def gb (af : Int → Int → Int → Int → Int) (w d : Int) (V : Int → Int) (k : Nat) (p a b : Int) : Int := w * (a - b) + V (af p (d + k) a b)
noncomputable def vl (af : Int → Int → Int → Int → Int) (w d : Int) (V : Int → Int) (k : Nat) (p a : Int) : Int := gb af w d V k p a (pk (gb af w d V k p a))
noncomputable def ft (af : Int → Int → Int → Int → Int) (w d : Int) (V : Int → Int) (k : Nat) (p : Int) : Int := pk (fun a => -(vl af w d V k p a))
noncomputable def uG (af : Int → Int → Int → Int → Int) (w d s : Int) : Nat → Nat → Int → Int
  | 0, _, p => 2 * p - s
  | e + 1, k, p => vl af w d (uG af w d s e (k + 1)) k p (ft af w d (uG af w d s e (k + 1)) k p)
theorem wab {w t : Int} (hw : 0 ≤ w ∧ w ≤ 9) (ht : -3 ≤ t ∧ t ≤ 3) : -27 ≤ w * t ∧ w * t ≤ 27 := by
  rcases (show t = -3 ∨ t = -2 ∨ t = -1 ∨ t = 0 ∨ t = 1 ∨ t = 2 ∨ t = 3 by omega) with rfl | rfl | rfl | rfl | rfl | rfl | rfl <;> omega
theorem gb_r {M : am_M} {w d : Int} {V : Int → Int} {B : Int} (hw : 0 ≤ w ∧ w ≤ 9) (hV : ∀ q, 0 ≤ q ∧ q ≤ M 11 0 → -B ≤ V q ∧ V q ≤ B) {k : Nat} {p a b : Int} (hp : 0 ≤ p ∧ p ≤ M 11 0) (ha : 0 ≤ a ∧ a ≤ 3) (hb : 0 ≤ b ∧ b ≤ 3) : -(B + 27) ≤ gb (af_ M) w d V k p a b ∧ gb (af_ M) w d V k p a b ≤ B + 27 := by
  have h1 := wab hw (t := a - b) (by omega)
  have h2 := hV _ (af_r (M := M) (d := d + k) (x := a) (y := b) hp)
  unfold gb
  omega
theorem uG_r {M : am_M} (I : Ic M) {w d : Int} (hw : 0 ≤ w ∧ w ≤ 9) : ∀ (e k : Nat) (p : Int), 0 ≤ p ∧ p ≤ M 11 0 → -(12 + 27 * (e : Int)) ≤ uG (af_ M) w d (M 11 0) e k p ∧ uG (af_ M) w d (M 11 0) e k p ≤ 12 + 27 * (e : Int)
  | 0, k, p, hp => by have := I.rs; unfold uG; omega
  | e + 1, k, p, hp => by
    have h := gb_r (d := d) (k := k) (V := uG (af_ M) w d (M 11 0) e (k + 1)) (B := 12 + 27 * (e : Int)) hw (fun q hq => uG_r I hw e (k + 1) q hq) hp (pk_r (fun a => -(vl (af_ M) w d (uG (af_ M) w d (M 11 0) e (k + 1)) k p a))) (pk_r (gb (af_ M) w d (uG (af_ M) w d (M 11 0) e (k + 1)) k p (ft (af_ M) w d (uG (af_ M) w d (M 11 0) e (k + 1)) k p)))
    unfold uG vl
    push_cast
    have e1 : (12 : Int) + 27 * (e : Int) + 27 = 12 + 27 * ((e : Int) + 1) := by omega
    rw [e1] at h
    exact h
/-! the class -/
/-- the game stands ready: the land, the price -/
noncomputable def GmI (M : am_M) (w : Int) : Prop := Ic M ∧ M 44 4 = w ∧ 0 ≤ w ∧ w ≤ 9
theorem c_slot7 {k p : Nat} (hk : k ≤ 4) (hp : p < 13) (M : am_M) : X_X7_isSlot k p M = some (1, M) := by
  rw [X_X7_isSlot, wI_of (x := (k : Int)) (by omega) (by omega), wI_of (x := (p : Int)) (by omega) (by omega), if_neg (by omega), if_neg (by omega), if_neg (by omega), if_pos (by omega)]
theorem c_worth {k p : Nat} (hk : k ≤ 4) (hp : p < 13) (M : am_M) : X_X7_worthOf_44 k p M = some (M 45 (13 * k + p), M) := by
  have e : ∀ _ : Unit, wI ((k : Int) * 13 + p) = ((13 * k + p : Nat) : Int) := fun _ => by rw [wI_of (by omega) (by omega)]; push_cast; omega
  rw [X_X7_worthOf_44, c_slot7 hk hp, ob]
  dsimp +instances only
  rw [if_neg (by decide), e (), if_pos (by omega), Int.toNat_natCast]
theorem c_saying {k p : Nat} (hk : k ≤ 4) (hp : p < 13) (M : am_M) : X_X7_bestSaying_44 k p M = some (M 46 (13 * k + p), M) := by
  have e : ∀ _ : Unit, wI ((k : Int) * 13 + p) = ((13 * k + p : Nat) : Int) := fun _ => by rw [wI_of (by omega) (by omega)]; push_cast; omega
  rw [X_X7_bestSaying_44, c_slot7 hk hp, ob]
  dsimp +instances only
  rw [if_neg (by decide), e (), if_pos (by omega), Int.toNat_natCast]
theorem c_note {k p : Nat} (hk : k ≤ 4) (hp : p < 13) (v s : Int) (M : am_M) : X_X7_note_44 k p v s M = some (0, am_up (am_up M 45 (13 * k + p) v) 46 (13 * k + p) s) := by
  have e : ∀ _ : Unit, wI ((k : Int) * 13 + p) = ((13 * k + p : Nat) : Int) := fun _ => by rw [wI_of (by omega) (by omega)]; push_cast; omega
  rw [X_X7_note_44, c_slot7 hk hp, ob]
  dsimp +instances only
  rw [if_neg (by decide), e (), if_pos (by omega), if_pos (by omega), Int.toNat_natCast]
theorem c_wob {M : am_M} {w : Int} (G : GmI M w) {V : Int → Int} {k : Nat} (hk : k < 4) (hV : ∀ q : Nat, (q : Int) ≤ M 11 0 → M 45 (13 * (k + 1) + q) = V q) {p a b : Int} (hp : 0 ≤ p ∧ p ≤ M 11 0) (ha : 0 ≤ a ∧ a ≤ 3) (hb : 0 ≤ b ∧ b ≤ 3) : X_X7_worthOfBoth_44 k p a b M = some (gb (af_ M) w (M 14 0) V k p a b, M) := by
  have r0 := G.1.r0
  have rs := G.1.rs
  have hr := af_r (M := M) (d := M 14 0 + k) (x := a) (y := b) hp
  obtain ⟨t, ht⟩ := Int.eq_ofNat_of_zero_le hr.1
  rw [X_X7_worthOfBoth_44, kc_aft G.1 hp (by omega) ha hb, ob]
  dsimp only
  rw [ht, ← Int.natCast_succ, c_worth (by omega) (by omega), ob]
  dsimp only
  rw [G.2.1, hV t (by omega)]
  unfold gb
  rw [ht]
theorem c_br1 (k5 : Int → am_M → am_Rs) {M : am_M} {w : Int} (G : GmI M w) {V : Int → Int} {k : Nat} (hk : k < 4) (hV : ∀ q : Nat, (q : Int) ≤ M 11 0 → M 45 (13 * (k + 1) + q) = V q) (hO : ∀ q, 0 ≤ q ∧ q ≤ M 11 0 → -200 ≤ V q ∧ V q ≤ 200) {p a b s : Int} (hp : 0 ≤ p ∧ p ≤ M 11 0) (ha : 0 ≤ a ∧ a ≤ 3) (hb : 0 ≤ b ∧ b ≤ 3) (hs : 0 ≤ s ∧ s ≤ 3) (n : Nat) : XL_X7_bestReply_44_1 k5 (n + 1) k p a s (gb (af_ M) w (M 14 0) V k p a s) b M = XL_X7_bestReply_44_1 k5 n k p a (sel (gb (af_ M) w (M 14 0) V k p a) b s) (gb (af_ M) w (M 14 0) V k p a (sel (gb (af_ M) w (M 14 0) V k p a) b s)) (b + 1) M := by
  have h1 := gb_r (d := M 14 0) (k := k) G.2.2 hO hp ha hb
  have h2 := gb_r (d := M 14 0) (k := k) G.2.2 hO hp ha hs
  rw [XL_X7_bestReply_44_1, XB_X7_bestReply_44_1, wI_of (x := b) (by omega) (by omega), if_neg (by omega), c_wob G hk hV hp ha hb, ob]
  dsimp +instances only
  unfold sel
  generalize hx : gb (af_ M) w (M 14 0) V k p a b = x at h1 ⊢
  generalize hy : gb (af_ M) w (M 14 0) V k p a s = y at h2 ⊢
  rw [wI_of (x := x) (by omega) (by omega), wI_of (x := y) (by omega) (by omega)]
  by_cases c : x < y
  · rw [if_pos c, if_pos c, hx]
  · rw [if_neg c, if_neg c, hy]
theorem c_reply {M : am_M} {w : Int} (G : GmI M w) {V : Int → Int} {k : Nat} (hk : k < 4) (hV : ∀ q : Nat, (q : Int) ≤ M 11 0 → M 45 (13 * (k + 1) + q) = V q) (hO : ∀ q, 0 ≤ q ∧ q ≤ M 11 0 → -200 ≤ V q ∧ V q ≤ 200) {p a : Int} (hp : 0 ≤ p ∧ p ≤ M 11 0) (ha : 0 ≤ a ∧ a ≤ 3) : X_X7_bestReply_44 k p a M = some (pk (gb (af_ M) w (M 14 0) V k p a), M) := by
  generalize hf : gb (af_ M) w (M 14 0) V k p a = f
  have st : ∀ (n : Nat) (s b : Int), 0 ≤ s ∧ s ≤ 3 → 0 ≤ b ∧ b ≤ 3 → XL_X7_bestReply_44_1 XB_X7_bestReply_44_5 (n + 1) k p a s (f s) b M = XL_X7_bestReply_44_1 XB_X7_bestReply_44_5 n k p a (sel f b s) (f (sel f b s)) (b + 1) M := fun n s b hs hb => by
    have := c_br1 XB_X7_bestReply_44_5 G hk hV hO hp ha hb hs n
    rw [hf] at this
    exact this
  have e0 : X_X7_worthOfBoth_44 k p a 0 M = some (f 0, M) := by rw [c_wob G hk hV hp ha (by decide), hf]
  have e1 : XL_X7_bestReply_44_1 XB_X7_bestReply_44_5 1000 k p a 0 (f 0) 1 M = _ := st 999 0 1 (by decide) (by decide)
  have e2 : XL_X7_bestReply_44_1 XB_X7_bestReply_44_5 999 k p a (sel f 1 0) (f (sel f 1 0)) (1 + 1) M = XL_X7_bestReply_44_1 XB_X7_bestReply_44_5 998 k p a (sel f 2 (sel f 1 0)) (f (sel f 2 (sel f 1 0))) (2 + 1) M := st 998 (sel f 1 0) 2 (sel_r (by decide) (by decide)) (by decide)
  have e3 : XL_X7_bestReply_44_1 XB_X7_bestReply_44_5 998 k p a (sel f 2 (sel f 1 0)) (f (sel f 2 (sel f 1 0))) (2 + 1) M = XL_X7_bestReply_44_1 XB_X7_bestReply_44_5 997 k p a (sel f 3 (sel f 2 (sel f 1 0))) (f (sel f 3 (sel f 2 (sel f 1 0)))) (3 + 1) M := st 997 (sel f 2 (sel f 1 0)) 3 (sel_r (by decide) (sel_r (by decide) (by decide))) (by decide)
  rw [X_X7_bestReply_44, XB_X7_bestReply_44_e, e0, ob]
  dsimp only
  rw [e1, e2, e3, XL_X7_bestReply_44_1, XB_X7_bestReply_44_1, if_pos (by decide)]
  rfl
theorem c_ch1 (k6 : Int → Int → Int → Int → am_M → am_Rs) {M : am_M} {w : Int} (G : GmI M w) {V : Int → Int} {k : Nat} (hk : k < 4) (hV : ∀ q : Nat, (q : Int) ≤ M 11 0 → M 45 (13 * (k + 1) + q) = V q) (hO : ∀ q, 0 ≤ q ∧ q ≤ M 11 0 → -200 ≤ V q ∧ V q ≤ 200) {p a s y : Int} (hp : 0 ≤ p ∧ p ≤ M 11 0) (ha : 0 ≤ a ∧ a ≤ 3) (hs : 0 ≤ s ∧ s ≤ 3) (hy : a = 0 ∨ y = vl (af_ M) w (M 14 0) V k p s) (n : Nat) : XL_X7_choose_44_1 k6 (n + 1) k p s y a M = XL_X7_choose_44_1 k6 n k p (if a = 0 ∨ -(vl (af_ M) w (M 14 0) V k p a) < -(vl (af_ M) w (M 14 0) V k p s) then a else s) (vl (af_ M) w (M 14 0) V k p (if a = 0 ∨ -(vl (af_ M) w (M 14 0) V k p a) < -(vl (af_ M) w (M 14 0) V k p s) then a else s)) (a + 1) M := by
  have h1 := gb_r (d := M 14 0) (k := k) G.2.2 hO hp ha (pk_r (gb (af_ M) w (M 14 0) V k p a))
  have h2 := gb_r (d := M 14 0) (k := k) G.2.2 hO hp hs (pk_r (gb (af_ M) w (M 14 0) V k p s))
  have e2 : X_X7_worthOfBoth_44 k p a (pk (gb (af_ M) w (M 14 0) V k p a)) M = some (vl (af_ M) w (M 14 0) V k p a, M) := c_wob G hk hV hp ha (pk_r _)
  rw [XL_X7_choose_44_1, XB_X7_choose_44_1, wI_of (x := a) (by omega) (by omega), if_neg (by omega), c_reply G hk hV hO hp ha, ob]
  dsimp only
  rw [e2, ob]
  dsimp +instances only
  change -(200 + 27) ≤ vl (af_ M) w (M 14 0) V k p a ∧ vl (af_ M) w (M 14 0) V k p a ≤ 200 + 27 at h1
  change -(200 + 27) ≤ vl (af_ M) w (M 14 0) V k p s ∧ vl (af_ M) w (M 14 0) V k p s ≤ 200 + 27 at h2
  generalize hx : vl (af_ M) w (M 14 0) V k p a = x at h1 ⊢
  generalize hz : vl (af_ M) w (M 14 0) V k p s = z at h2 hy ⊢
  by_cases c : a = 0
  · rw [if_pos c, if_pos (Or.inl c), hx]
  · have hy2 : y = z := hy.resolve_left c
    subst hy2
    rw [if_neg c, wI_of (x := x) (by omega) (by omega), wI_of (x := y) (by omega) (by omega)]
    by_cases c2 : y < x
    · rw [if_pos c2, if_pos (Or.inr (by omega)), hx]
    · rw [if_neg c2, if_neg (by omega), hz]
theorem c_choose {M : am_M} {w : Int} (G : GmI M w) {V : Int → Int} {k : Nat} (hk : k < 4) (hV : ∀ q : Nat, (q : Int) ≤ M 11 0 → M 45 (13 * (k + 1) + q) = V q) (hO : ∀ q, 0 ≤ q ∧ q ≤ M 11 0 → -200 ≤ V q ∧ V q ≤ 200) {p : Nat} (hp : (p : Int) ≤ M 11 0) : X_X7_choose_44 k p M = some (0, am_up (am_up M 45 (13 * k + p) (vl (af_ M) w (M 14 0) V k p (ft (af_ M) w (M 14 0) V k p))) 46 (13 * k + p) (ft (af_ M) w (M 14 0) V k p)) := by
  have rs := G.1.rs
  have hp2 : 0 ≤ (p : Int) ∧ (p : Int) ≤ M 11 0 := by omega
  have st := fun (n : Nat) (s a y : Int) (hs : 0 ≤ s ∧ s ≤ 3) (ha : 0 ≤ a ∧ a ≤ 3) (hy : a = 0 ∨ y = vl (af_ M) w (M 14 0) V k p s) => c_ch1 XB_X7_choose_44_6 G hk hV hO hp2 ha hs hy n
  unfold ft
  generalize hf : vl (af_ M) w (M 14 0) V k p = f at st ⊢
  have e0 : XL_X7_choose_44_1 XB_X7_choose_44_6 1000 k p 0 0 0 M = XL_X7_choose_44_1 XB_X7_choose_44_6 999 k p 0 (f 0) (0 + 1) M := by
    have h := st 999 0 0 0 (by decide) (by decide) (Or.inl rfl)
    rw [if_pos (Or.inl rfl)] at h
    exact h
  obtain ⟨g, hg⟩ : ∃ g : Int → Int, g = fun a => -(f a) := ⟨_, rfl⟩
  rw [← hg]
  have tl : ∀ (n : Nat) (s a : Int), 0 ≤ s ∧ s ≤ 3 → 1 ≤ a ∧ a ≤ 3 → XL_X7_choose_44_1 XB_X7_choose_44_6 (n + 1) k p s (f s) a M = XL_X7_choose_44_1 XB_X7_choose_44_6 n k p (sel g a s) (f (sel g a s)) (a + 1) M := fun n s a hs ha => by
    have h := st n s a (f s) hs (by omega) (Or.inr rfl)
    have e : (if a = 0 ∨ -(f a) < -(f s) then a else s) = sel g a s := by
      unfold sel
      rw [hg]
      by_cases c : -(f a) < -(f s)
      · rw [if_pos (Or.inr c), if_pos c]
      · rw [if_neg (by omega), if_neg c]
    rw [e] at h
    exact h
  have e1 : XL_X7_choose_44_1 XB_X7_choose_44_6 999 k p 0 (f 0) (0 + 1) M = XL_X7_choose_44_1 XB_X7_choose_44_6 998 k p (sel g 1 0) (f (sel g 1 0)) (1 + 1) M := tl 998 0 1 (by decide) (by decide)
  have e2 : XL_X7_choose_44_1 XB_X7_choose_44_6 998 k p (sel g 1 0) (f (sel g 1 0)) (1 + 1) M = XL_X7_choose_44_1 XB_X7_choose_44_6 997 k p (sel g 2 (sel g 1 0)) (f (sel g 2 (sel g 1 0))) (2 + 1) M := tl 997 (sel g 1 0) 2 (sel_r (by decide) (by decide)) (by decide)
  have e3 : XL_X7_choose_44_1 XB_X7_choose_44_6 997 k p (sel g 2 (sel g 1 0)) (f (sel g 2 (sel g 1 0))) (2 + 1) M = XL_X7_choose_44_1 XB_X7_choose_44_6 996 k p (pk g) (f (pk g)) (3 + 1) M := tl 996 (sel g 2 (sel g 1 0)) 3 (sel_r (by decide) (sel_r (by decide) (by decide))) (by decide)
  rw [X_X7_choose_44, XB_X7_choose_44_e, e0, e1, e2, e3, XL_X7_choose_44_1, XB_X7_choose_44_1, if_pos (by decide), XB_X7_choose_44_6, c_note (by omega) (by omega), ob]
/-- tables laid from row k0 on -/
noncomputable def Tg (s : Int) (U : Nat → Int → Int) (n k0 : Nat) (f : Nat → Int) : Prop := ∀ k, k0 ≤ k → k ≤ n → ∀ p : Nat, (p : Int) ≤ s → f (13 * k + p) = U k p
noncomputable def Ts (s : Int) (S : Nat → Int → Int) (n k0 : Nat) (g : Nat → Int) : Prop := ∀ k, k0 ≤ k → k < n → ∀ p : Nat, (p : Int) ≤ s → g (13 * k + p) = S k p
theorem up2 (N : am_M) (f g : Nat → Int) (j : Nat) (x y : Int) : am_up (am_up (am_row (am_row N 45 f) 46 g) 45 j x) 46 j y = am_row (am_row N 45 fun i => if i = j then x else f i) 46 fun i => if i = j then y else g i := by
  rw [up_row, up_row, row_a (show 45 ≠ 46 by decide), row_s, row_a (show 46 ≠ 45 by decide), row_s, row_c (M := N) (a := 45) (b := 46) (by decide), row_row, row_c (a := 46) (b := 45) (by decide), row_row]
theorem lp_g1 (kk : Int → am_M → am_Rs) {N : am_M} (I : Ic N) {n : Nat} (hn : n ≤ 4) : ∀ (e n1 i : Nat) (f g : Nat → Int), (i : Int) + e = N 11 0 + 1 → e < n1 → (∀ p : Nat, p < i → f (13 * n + p) = 2 * (p : Int) - N 11 0) → ∃ f' g', XL_X7_solve_44_1 kk n1 n i (am_row (am_row N 45 f) 46 g) = kk n (am_row (am_row N 45 f') 46 g') ∧ ∀ p : Nat, (p : Int) ≤ N 11 0 → f' (13 * n + p) = 2 * (p : Int) - N 11 0 := by
  intro e
  induction e with
  | zero =>
    intro n1 i f g hi hn1 hf
    have rs := I.rs
    obtain ⟨n1, rfl⟩ : ∃ m, n1 = m + 1 := ⟨n1 - 1, by omega⟩
    refine ⟨f, g, ?_, fun p hp => hf p (by omega)⟩
    rw [XL_X7_solve_44_1, XB_X7_solve_44_1, show (am_row (am_row N 45 f) 46 g) 11 0 = N 11 0 from rfl, wI_of (x := (i : Int)) (by omega) (by omega), wI_of (x := N 11 0) (by omega) (by omega), if_pos (by omega)]
  | succ e ih =>
    intro n1 i f g hi hn1 hf
    have rs := I.rs
    obtain ⟨n1, rfl⟩ : ∃ m, n1 = m + 1 := ⟨n1 - 1, by omega⟩
    obtain ⟨f', g', a1, a2⟩ := ih n1 (i + 1) (fun j => if j = 13 * n + i then 2 * (i : Int) - N 11 0 else f j) (fun j => if j = 13 * n + i then 0 else g j) (by push_cast; omega) (by omega) (fun p hp => by
      by_cases c : p = i
      · subst c; rw [if_pos rfl]
      · rw [if_neg (by omega)]; exact hf p (by omega))
    refine ⟨f', g', ?_, a2⟩
    rw [XL_X7_solve_44_1, XB_X7_solve_44_1, show (am_row (am_row N 45 f) 46 g) 11 0 = N 11 0 from rfl, wI_of (x := (i : Int)) (by omega) (by omega), wI_of (x := N 11 0) (by omega) (by omega), if_neg (by omega), c_note (by omega) (by omega), ob, up2]
    exact a1
theorem lp_g6 (kk : Int → am_M → am_Rs) {N : am_M} {w : Int} (G : GmI N w) {U S : Nat → Int → Int} {n k : Nat} (hn : n ≤ 4) (hk : k < n) (hU : ∀ p, U k p = vl (af_ N) w (N 14 0) (U (k + 1)) k p (S k p)) (hS : ∀ p, S k p = ft (af_ N) w (N 14 0) (U (k + 1)) k p) (hO : ∀ q, 0 ≤ q ∧ q ≤ N 11 0 → -200 ≤ U (k + 1) q ∧ U (k + 1) q ≤ 200) : ∀ (e n1 i : Nat) (f g : Nat → Int), (i : Int) + e = N 11 0 + 1 → e < n1 → Tg (N 11 0) U n (k + 1) f → Ts (N 11 0) S n (k + 1) g → (∀ p : Nat, p < i → f (13 * k + p) = U k p ∧ g (13 * k + p) = S k p) → ∃ f' g', XL_X7_solve_44_6 kk n1 k i (am_row (am_row N 45 f) 46 g) = kk k (am_row (am_row N 45 f') 46 g') ∧ Tg (N 11 0) U n k f' ∧ Ts (N 11 0) S n k g' := by
  intro e
  induction e with
  | zero =>
    intro n1 i f g hi hn1 hT hT2 hf
    have rs := G.1.rs
    obtain ⟨n1, rfl⟩ : ∃ m, n1 = m + 1 := ⟨n1 - 1, by omega⟩
    refine ⟨f, g, ?_, fun k' h1 h2 p hp => ?_, fun k' h1 h2 p hp => ?_⟩
    · rw [XL_X7_solve_44_6, XB_X7_solve_44_6, show (am_row (am_row N 45 f) 46 g) 11 0 = N 11 0 from rfl, wI_of (x := (i : Int)) (by omega) (by omega), wI_of (x := N 11 0) (by omega) (by omega), if_pos (by omega)]
    · rcases Nat.lt_or_eq_of_le h1 with h | h
      · exact hT k' h h2 p hp
      · subst h; exact (hf p (by omega)).1
    · rcases Nat.lt_or_eq_of_le h1 with h | h
      · exact hT2 k' h h2 p hp
      · subst h; exact (hf p (by omega)).2
  | succ e ih =>
    intro n1 i f g hi hn1 hT hT2 hf
    have rs := G.1.rs
    obtain ⟨n1, rfl⟩ : ∃ m, n1 = m + 1 := ⟨n1 - 1, by omega⟩
    obtain ⟨f', g', a1, a2, a3⟩ := ih n1 (i + 1) (fun j => if j = 13 * k + i then U k i else f j) (fun j => if j = 13 * k + i then S k i else g j) (by push_cast; omega) (by omega) (fun k' h1 h2 p hp => by show (if 13 * k' + p = 13 * k + i then _ else _) = _; rw [if_neg (by omega)]; exact hT k' h1 h2 p hp) (fun k' h1 h2 p hp => by show (if 13 * k' + p = 13 * k + i then _ else _) = _; rw [if_neg (by omega)]; exact hT2 k' h1 h2 p hp) (fun p hp => by
      by_cases c : p = i
      · subst c; rw [if_pos rfl, if_pos rfl]; exact ⟨rfl, rfl⟩
      · rw [if_neg (by omega), if_neg (by omega)]; exact hf p (by omega))
    refine ⟨f', g', ?_, a2, a3⟩
    have G' : GmI (am_row (am_row N 45 f) 46 g) w := ⟨Kc.ic G.1 ((Kc.row (by decide)).tr (Kc.row (by decide))), G.2.1, G.2.2⟩
    have ch : X_X7_choose_44 k i (am_row (am_row N 45 f) 46 g) = some (0, am_up (am_up (am_row (am_row N 45 f) 46 g) 45 (13 * k + i) (vl (af_ N) w (N 14 0) (U (k + 1)) k i (ft (af_ N) w (N 14 0) (U (k + 1)) k i))) 46 (13 * k + i) (ft (af_ N) w (N 14 0) (U (k + 1)) k i)) := c_choose G' (by omega) (V := U (k + 1)) (fun q hq => hT (k + 1) (by omega) (by omega) q hq) hO (p := i) (show (i : Int) ≤ N 11 0 by omega)
    rw [← hS, ← hU, up2] at ch
    rw [XL_X7_solve_44_6, XB_X7_solve_44_6, show (am_row (am_row N 45 f) 46 g) 11 0 = N 11 0 from rfl, wI_of (x := (i : Int)) (by omega) (by omega), wI_of (x := N 11 0) (by omega) (by omega), if_neg (by omega), ch, ob]
    exact a1
theorem lp_g4 (kk : am_M → am_Rs) {N : am_M} {w : Int} (G : GmI N w) {U S : Nat → Int → Int} {n : Nat} (hn : n ≤ 4) (hU : ∀ k, k < n → ∀ p, U k p = vl (af_ N) w (N 14 0) (U (k + 1)) k p (S k p)) (hS : ∀ k, k < n → ∀ p, S k p = ft (af_ N) w (N 14 0) (U (k + 1)) k p) (hO : ∀ k q, 0 ≤ q ∧ q ≤ N 11 0 → -200 ≤ U k q ∧ U k q ≤ 200) : ∀ (e n1 : Nat) (f g : Nat → Int), e ≤ n → e < n1 → Tg (N 11 0) U n e f → Ts (N 11 0) S n e g → ∃ f' g', XL_X7_solve_44_4 kk n1 ((e : Int) - 1) (am_row (am_row N 45 f) 46 g) = kk (am_row (am_row N 45 f') 46 g') ∧ Tg (N 11 0) U n 0 f' ∧ Ts (N 11 0) S n 0 g' := by
  intro e
  induction e with
  | zero =>
    intro n1 f g he hn1 hT hT2
    obtain ⟨n1, rfl⟩ : ∃ m, n1 = m + 1 := ⟨n1 - 1, by omega⟩
    refine ⟨f, g, ?_, hT, hT2⟩
    rw [XL_X7_solve_44_4, XB_X7_solve_44_4, if_pos (by decide)]
  | succ e ih =>
    intro n1 f g he hn1 hT hT2
    have rs := G.1.rs
    obtain ⟨n1, rfl⟩ : ∃ m, n1 = m + 1 := ⟨n1 - 1, by omega⟩
    obtain ⟨f1, g1, a1, a2, a3⟩ := lp_g6 (XB_X7_solve_44_8 (XL_X7_solve_44_4 kk n1)) G (U := U) (S := S) (n := n) (k := e) hn (by omega) (hU e (by omega)) (hS e (by omega)) (hO (e + 1)) (N 11 0 + 1).toNat 1000 0 f g (by omega) (by omega) hT hT2 (fun p hp => by omega)
    obtain ⟨f', g', b1, b2', b3⟩ := ih n1 f1 g1 (by omega) (by omega) a2 a3
    refine ⟨f', g', ?_, b2', b3⟩
    rw [show ((0 : Nat) : Int) = 0 from rfl] at a1
    rw [XL_X7_solve_44_4, XB_X7_solve_44_4, show ((e + 1 : Nat) : Int) - 1 = (e : Int) by omega, wI_of (x := (e : Int)) (by omega) (by omega), if_neg (by omega), a1, XB_X7_solve_44_8]
    exact b1
/-- the values and sayings of the game -/
noncomputable def uV (M : am_M) (w : Int) (n k : Nat) (p : Int) : Int := uG (af_ M) w (M 14 0) (M 11 0) (n - k) k p
noncomputable def uS (M : am_M) (w : Int) (n k : Nat) (p : Int) : Int := ft (af_ M) w (M 14 0) (uV M w n (k + 1)) k p
theorem uV_s {M : am_M} {w : Int} {n k : Nat} (h : k < n) (p : Int) : uV M w n k p = vl (af_ M) w (M 14 0) (uV M w n (k + 1)) k p (uS M w n k p) := by
  unfold uS uV
  rw [show n - k = (n - (k + 1)) + 1 by omega]
  rfl
theorem uV_r {M : am_M} (I : Ic M) {w : Int} (hw : 0 ≤ w ∧ w ≤ 9) {n : Nat} (hn : n ≤ 4) (k : Nat) (q : Int) (hq : 0 ≤ q ∧ q ≤ M 11 0) : -200 ≤ uV M w n k q ∧ uV M w n k q ≤ 200 := by
  have := uG_r I (d := M 14 0) hw (n - k) k q hq
  unfold uV
  omega
theorem sp_gsolve {M : am_M} (I : Ic M) {w : Int} (hw : 0 ≤ w ∧ w ≤ 9) {n : Nat} (hn : n ≤ 4) : ∃ f g, X_X7_solve_44 n w M = some (0, am_row (am_row (am_up M 44 4 w) 45 f) 46 g) ∧ Tg (M 11 0) (uV M w n) n 0 f ∧ Ts (M 11 0) (uS M w n) n 0 g := by
  have rs := I.rs
  have G : GmI (am_up M 44 4 w) w := ⟨Kc.ic I (Kc.up (by decide)), up_s, hw⟩
  obtain ⟨f1, g1, a1, a2⟩ := lp_g1 (XB_X7_solve_44_3 (XL_X7_solve_44_4 XB_X7_solve_44_9 1000)) G.1 hn (M 11 0 + 1).toNat 1000 0 (M 45) (M 46) (show ((0 : Nat) : Int) + _ = M 11 0 + 1 by omega) (by omega) (fun p hp => by omega)
  obtain ⟨f2, g2, b1, b2', b3⟩ := lp_g4 XB_X7_solve_44_9 G (U := uV M w n) (S := uS M w n) hn (fun k hk p => uV_s hk p) (fun k hk p => rfl) (fun k q hq => uV_r I hw hn k q hq) n 1000 f1 g1 (Nat.le_refl _) (by omega) (fun k h1 h2 p hp => by
    have : k = n := by omega
    subst this
    rw [a2 p hp]
    unfold uV
    rw [Nat.sub_self]; rfl) (fun k h1 h2 p hp => by omega)
  refine ⟨f2, g2, ?_, b2', b3⟩
  rw [show ((0 : Nat) : Int) = 0 from rfl] at a1
  have e : am_row (am_row (am_up M 44 4 w) 45 (M 45)) 46 (M 46) = am_up M 44 4 w := by
    rw [show am_row (am_up M 44 4 w) 45 (M 45) = am_up M 44 4 w from row_self (am_up M 44 4 w) 45]
    exact row_self (am_up M 44 4 w) 46
  rw [e] at a1
  rw [X_X7_solve_44, XB_X7_solve_44_e, a1, XB_X7_solve_44_3, b1]
  rfl
