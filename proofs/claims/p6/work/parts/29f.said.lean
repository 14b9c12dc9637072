/-! What to say by turns, the reference's side; game, said, calm. -/
/-- the reference's game stands ready -/
noncomputable def GrJ (M : am_M) (w : Int) : Prop := Ic M ∧ M 53 30 = w ∧ 0 ≤ w ∧ w ≤ 9
theorem m_gb {M : am_M} {w : Int} (G : GrJ M w) {V : Int → Int} {k : Nat} (hk : k < 4) (hV : ∀ q : Nat, (q : Int) ≤ M 11 0 → M 68 (13 * (k + 1) + q) = V q) {p a b : Int} (hp : 0 ≤ p ∧ p ≤ M 11 0) (ha : 0 ≤ a ∧ a ≤ 3) (hb : 0 ≤ b ∧ b ≤ 3) : X_X9_gameBy_53 k p a b M = some (gb (af_ M) w (M 14 0) V k p a b, M) := by
  have r0 := G.1.r0
  have rs := G.1.rs
  have hr := af_r (M := M) (d := M 14 0 + k) (x := a) (y := b) hp
  obtain ⟨t, ht⟩ := Int.eq_ofNat_of_zero_le hr.1
  have e : ∀ _ : Unit, wI (13 * ((k : Int) + 1) + t) = ((13 * (k + 1) + t : Nat) : Int) := fun _ => by rw [wI_of (by omega) (by omega)]; push_cast; omega
  rw [X_X9_gameBy_53, G.1.d0, km_aft G.1 hp (by omega) ha hb, ob]
  dsimp +instances only
  rw [ht, e (), if_pos (by omega), Int.toNat_natCast, G.2.1, hV t (by omega)]
  unfold gb
  rw [ht]
theorem m_an1 (k6 : Int → am_M → am_Rs) {M : am_M} {w : Int} (G : GrJ M w) {V : Int → Int} {k : Nat} (hk : k < 4) (hV : ∀ q : Nat, (q : Int) ≤ M 11 0 → M 68 (13 * (k + 1) + q) = V q) (hO : ∀ q, 0 ≤ q ∧ q ≤ M 11 0 → -200 ≤ V q ∧ V q ≤ 200) {p a b s : Int} (hp : 0 ≤ p ∧ p ≤ M 11 0) (ha : 0 ≤ a ∧ a ≤ 3) (hb : 0 ≤ b ∧ b ≤ 3) (hs : 0 ≤ s ∧ s ≤ 3) (n : Nat) : XL_X9_answerTo_53_1 k6 (n + 1) k p a s b M = XL_X9_answerTo_53_1 k6 n k p a (sel (gb (af_ M) w (M 14 0) V k p a) b s) (b + 1) M := by
  have h1 := gb_r (d := M 14 0) (k := k) G.2.2 hO hp ha hb
  have h2 := gb_r (d := M 14 0) (k := k) G.2.2 hO hp ha hs
  rw [XL_X9_answerTo_53_1, XB_X9_answerTo_53_1, wI_of (x := b) (by omega) (by omega), if_pos (by omega), m_gb G hk hV hp ha hb, ob]
  dsimp only
  rw [m_gb G hk hV hp ha hs, ob]
  dsimp +instances only
  unfold sel
  generalize gb (af_ M) w (M 14 0) V k p a b = x at h1 ⊢
  generalize gb (af_ M) w (M 14 0) V k p a s = y at h2 ⊢
  rw [wI_of (x := x) (by omega) (by omega), wI_of (x := y) (by omega) (by omega)]
  split <;> rfl
theorem m_answer {M : am_M} {w : Int} (G : GrJ M w) {V : Int → Int} {k : Nat} (hk : k < 4) (hV : ∀ q : Nat, (q : Int) ≤ M 11 0 → M 68 (13 * (k + 1) + q) = V q) (hO : ∀ q, 0 ≤ q ∧ q ≤ M 11 0 → -200 ≤ V q ∧ V q ≤ 200) {p a : Int} (hp : 0 ≤ p ∧ p ≤ M 11 0) (ha : 0 ≤ a ∧ a ≤ 3) : X_X9_answerTo_53 k p a M = some (pk (gb (af_ M) w (M 14 0) V k p a), M) := by
  generalize hf : gb (af_ M) w (M 14 0) V k p a = f
  have st : ∀ (n : Nat) (s b : Int), 0 ≤ s ∧ s ≤ 3 → 0 ≤ b ∧ b ≤ 3 → XL_X9_answerTo_53_1 XB_X9_answerTo_53_6 (n + 1) k p a s b M = XL_X9_answerTo_53_1 XB_X9_answerTo_53_6 n k p a (sel f b s) (b + 1) M := fun n s b hs hb => by
    have := m_an1 XB_X9_answerTo_53_6 G hk hV hO hp ha hb hs n
    rw [hf] at this
    exact this
  have e1 : XL_X9_answerTo_53_1 XB_X9_answerTo_53_6 1000 k p a 0 1 M = XL_X9_answerTo_53_1 XB_X9_answerTo_53_6 999 k p a (sel f 1 0) (1 + 1) M := st 999 0 1 (by decide) (by decide)
  have e2 : XL_X9_answerTo_53_1 XB_X9_answerTo_53_6 999 k p a (sel f 1 0) (1 + 1) M = XL_X9_answerTo_53_1 XB_X9_answerTo_53_6 998 k p a (sel f 2 (sel f 1 0)) (2 + 1) M := st 998 (sel f 1 0) 2 (sel_r (by decide) (by decide)) (by decide)
  have e3 : XL_X9_answerTo_53_1 XB_X9_answerTo_53_6 998 k p a (sel f 2 (sel f 1 0)) (2 + 1) M = XL_X9_answerTo_53_1 XB_X9_answerTo_53_6 997 k p a (pk f) (3 + 1) M := st 997 (sel f 2 (sel f 1 0)) 3 (sel_r (by decide) (sel_r (by decide) (by decide))) (by decide)
  rw [X_X9_answerTo_53, XB_X9_answerTo_53_e, e1, e2, e3, XL_X9_answerTo_53_1, XB_X9_answerTo_53_1, if_neg (by decide)]
  rfl
theorem m_vl {M : am_M} {w : Int} (G : GrJ M w) {V : Int → Int} {k : Nat} (hk : k < 4) (hV : ∀ q : Nat, (q : Int) ≤ M 11 0 → M 68 (13 * (k + 1) + q) = V q) (hO : ∀ q, 0 ≤ q ∧ q ≤ M 11 0 → -200 ≤ V q ∧ V q ≤ 200) {p a : Int} (hp : 0 ≤ p ∧ p ≤ M 11 0) (ha : 0 ≤ a ∧ a ≤ 3) : X_X9_valueOf_53 k p a M = some (vl (af_ M) w (M 14 0) V k p a, M) := by
  rw [X_X9_valueOf_53, m_answer G hk hV hO hp ha, ob]
  dsimp only
  rw [m_gb G hk hV hp ha (pk_r _), ob]
  rfl
theorem m_ft {M : am_M} {w : Int} (G : GrJ M w) {V : Int → Int} {k : Nat} (hk : k < 4) (hV : ∀ q : Nat, (q : Int) ≤ M 11 0 → M 68 (13 * (k + 1) + q) = V q) (hO : ∀ q, 0 ≤ q ∧ q ≤ M 11 0 → -200 ≤ V q ∧ V q ≤ 200) {p : Int} (hp : 0 ≤ p ∧ p ≤ M 11 0) : X_X9_firstTo_53 k p M = some (ft (af_ M) w (M 14 0) V k p, M) := by
  unfold ft
  obtain ⟨f, hf⟩ : ∃ f : Int → Int, f = fun a => -(vl (af_ M) w (M 14 0) V k p a) := ⟨_, rfl⟩
  rw [← hf]
  have st : ∀ (n : Nat) (s a : Int), 0 ≤ s ∧ s ≤ 3 → 0 ≤ a ∧ a ≤ 3 → XL_X9_firstTo_53_1 XB_X9_firstTo_53_6 (n + 1) k p s a M = XL_X9_firstTo_53_1 XB_X9_firstTo_53_6 n k p (sel f a s) (a + 1) M := fun n s a hs ha => by
    have h1 := gb_r (d := M 14 0) (k := k) G.2.2 hO hp ha (pk_r (gb (af_ M) w (M 14 0) V k p a))
    have h2 := gb_r (d := M 14 0) (k := k) G.2.2 hO hp hs (pk_r (gb (af_ M) w (M 14 0) V k p s))
    change -(200 + 27) ≤ vl (af_ M) w (M 14 0) V k p a ∧ vl (af_ M) w (M 14 0) V k p a ≤ 200 + 27 at h1
    change -(200 + 27) ≤ vl (af_ M) w (M 14 0) V k p s ∧ vl (af_ M) w (M 14 0) V k p s ≤ 200 + 27 at h2
    rw [XL_X9_firstTo_53_1, XB_X9_firstTo_53_1, wI_of (x := a) (by omega) (by omega), if_pos (by omega), m_vl G hk hV hO hp ha, ob]
    dsimp only
    rw [m_vl G hk hV hO hp hs, ob]
    dsimp +instances only
    unfold sel
    rw [hf]
    dsimp +instances only
    generalize vl (af_ M) w (M 14 0) V k p a = x at h1 ⊢
    generalize vl (af_ M) w (M 14 0) V k p s = y at h2 ⊢
    rw [wI_of (x := x) (by omega) (by omega), wI_of (x := y) (by omega) (by omega)]
    by_cases c : y < x
    · rw [if_pos c, if_pos (by omega)]
    · rw [if_neg c, if_neg (by omega)]
  have e1 : XL_X9_firstTo_53_1 XB_X9_firstTo_53_6 1000 k p 0 1 M = XL_X9_firstTo_53_1 XB_X9_firstTo_53_6 999 k p (sel f 1 0) (1 + 1) M := st 999 0 1 (by decide) (by decide)
  have e2 : XL_X9_firstTo_53_1 XB_X9_firstTo_53_6 999 k p (sel f 1 0) (1 + 1) M = XL_X9_firstTo_53_1 XB_X9_firstTo_53_6 998 k p (sel f 2 (sel f 1 0)) (2 + 1) M := st 998 (sel f 1 0) 2 (sel_r (by decide) (by decide)) (by decide)
  have e3 : XL_X9_firstTo_53_1 XB_X9_firstTo_53_6 998 k p (sel f 2 (sel f 1 0)) (2 + 1) M = XL_X9_firstTo_53_1 XB_X9_firstTo_53_6 997 k p (pk f) (3 + 1) M := st 997 (sel f 2 (sel f 1 0)) 3 (sel_r (by decide) (sel_r (by decide) (by decide))) (by decide)
  rw [X_X9_firstTo_53, XB_X9_firstTo_53_e, e1, e2, e3, XL_X9_firstTo_53_1, XB_X9_firstTo_53_1, if_neg (by decide)]
  rfl
theorem lp_h1 (kk : Int → am_M → am_Rs) {N : am_M} (I : Ic N) {n : Nat} (hn : n ≤ 4) : ∀ (e n1 i : Nat) (f : Nat → Int), (i : Int) + e = N 11 0 + 1 → e < n1 → (∀ p : Nat, p < i → f (13 * n + p) = 2 * (p : Int) - N 11 0) → ∃ f', XL_X9_layGames_53_1 kk n1 n i (am_row N 68 f) = kk n (am_row N 68 f') ∧ ∀ p : Nat, (p : Int) ≤ N 11 0 → f' (13 * n + p) = 2 * (p : Int) - N 11 0 := by
  intro e
  induction e with
  | zero =>
    intro n1 i f hi hn1 hf
    have rs := I.rs
    obtain ⟨n1, rfl⟩ : ∃ m, n1 = m + 1 := ⟨n1 - 1, by omega⟩
    refine ⟨f, ?_, fun p hp => hf p (by omega)⟩
    rw [XL_X9_layGames_53_1, XB_X9_layGames_53_1, show (am_row N 68 f) 53 1 = N 11 0 from I.es, wI_of (x := (i : Int)) (by omega) (by omega), wI_of (x := N 11 0) (by omega) (by omega), if_pos (by omega)]
  | succ e ih =>
    intro n1 i f hi hn1 hf
    have rs := I.rs
    obtain ⟨n1, rfl⟩ : ∃ m, n1 = m + 1 := ⟨n1 - 1, by omega⟩
    obtain ⟨f', a1, a2⟩ := ih n1 (i + 1) (fun j => if j = 13 * n + i then 2 * (i : Int) - N 11 0 else f j) (by push_cast; omega) (by omega) (fun p hp => by
      by_cases c : p = i
      · subst c; rw [if_pos rfl]
      · rw [if_neg (by omega)]; exact hf p (by omega))
    refine ⟨f', ?_, a2⟩
    have e1 : ∀ _ : Unit, wI (13 * (n : Int) + i) = ((13 * n + i : Nat) : Int) := fun _ => by rw [wI_of (by omega) (by omega)]; push_cast; omega
    rw [XL_X9_layGames_53_1, XB_X9_layGames_53_1, show (am_row N 68 f) 53 1 = N 11 0 from I.es, wI_of (x := (i : Int)) (by omega) (by omega), wI_of (x := N 11 0) (by omega) (by omega), if_neg (by omega), e1 (), if_pos (by omega), Int.toNat_natCast, up_row, row_row, row_s]
    exact a1
theorem lp_h6 (kk : Int → am_M → am_Rs) {N : am_M} {w : Int} (G : GrJ N w) {U S : Nat → Int → Int} {n k : Nat} (hn : n ≤ 4) (hk : k < n) (hU : ∀ p, U k p = vl (af_ N) w (N 14 0) (U (k + 1)) k p (S k p)) (hS : ∀ p, S k p = ft (af_ N) w (N 14 0) (U (k + 1)) k p) (hO : ∀ q, 0 ≤ q ∧ q ≤ N 11 0 → -200 ≤ U (k + 1) q ∧ U (k + 1) q ≤ 200) : ∀ (e n1 i : Nat) (f : Nat → Int), (i : Int) + e = N 11 0 + 1 → e < n1 → Tg (N 11 0) U n (k + 1) f → (∀ p : Nat, p < i → f (13 * k + p) = U k p) → ∃ f', XL_X9_layGames_53_6 kk n1 k i (am_row N 68 f) = kk k (am_row N 68 f') ∧ Tg (N 11 0) U n k f' := by
  intro e
  induction e with
  | zero =>
    intro n1 i f hi hn1 hT hf
    have rs := G.1.rs
    obtain ⟨n1, rfl⟩ : ∃ m, n1 = m + 1 := ⟨n1 - 1, by omega⟩
    refine ⟨f, ?_, fun k' h1 h2 p hp => ?_⟩
    · rw [XL_X9_layGames_53_6, XB_X9_layGames_53_6, show (am_row N 68 f) 53 1 = N 11 0 from G.1.es, wI_of (x := (i : Int)) (by omega) (by omega), wI_of (x := N 11 0) (by omega) (by omega), if_pos (by omega)]
    · rcases Nat.lt_or_eq_of_le h1 with h | h
      · exact hT k' h h2 p hp
      · subst h; exact hf p (by omega)
  | succ e ih =>
    intro n1 i f hi hn1 hT hf
    have rs := G.1.rs
    obtain ⟨n1, rfl⟩ : ∃ m, n1 = m + 1 := ⟨n1 - 1, by omega⟩
    obtain ⟨f', a1, a2⟩ := ih n1 (i + 1) (fun j => if j = 13 * k + i then U k i else f j) (by push_cast; omega) (by omega) (fun k' h1 h2 p hp => by show (if 13 * k' + p = 13 * k + i then _ else _) = _; rw [if_neg (by omega)]; exact hT k' h1 h2 p hp) (fun p hp => by
      by_cases c : p = i
      · subst c; rw [if_pos rfl]
      · rw [if_neg (by omega)]; exact hf p (by omega))
    refine ⟨f', ?_, a2⟩
    have G' : GrJ (am_row N 68 f) w := ⟨Kc.ic G.1 (Kc.row (by decide)), G.2.1, G.2.2⟩
    have hi2 : 0 ≤ (i : Int) ∧ (i : Int) ≤ N 11 0 := by omega
    have hT1 : ∀ q : Nat, (q : Int) ≤ N 11 0 → (am_row N 68 f) 68 (13 * (k + 1) + q) = U (k + 1) q := fun q hq => hT (k + 1) (by omega) (by omega) q hq
    have q1 : X_X9_firstTo_53 k i (am_row N 68 f) = some (ft (af_ N) w (N 14 0) (U (k + 1)) k i, am_row N 68 f) := m_ft G' (by omega) hT1 hO (p := (i : Int)) hi2
    have q2 : X_X9_valueOf_53 k i (ft (af_ N) w (N 14 0) (U (k + 1)) k i) (am_row N 68 f) = some (vl (af_ N) w (N 14 0) (U (k + 1)) k i (ft (af_ N) w (N 14 0) (U (k + 1)) k i), am_row N 68 f) := m_vl G' (by omega) hT1 hO hi2 (pk_r _)
    rw [← hS] at q1 q2
    rw [← hU] at q2
    have e1 : ∀ _ : Unit, wI (13 * (k : Int) + i) = ((13 * k + i : Nat) : Int) := fun _ => by rw [wI_of (by omega) (by omega)]; push_cast; omega
    rw [XL_X9_layGames_53_6, XB_X9_layGames_53_6, show (am_row N 68 f) 53 1 = N 11 0 from G.1.es, wI_of (x := (i : Int)) (by omega) (by omega), wI_of (x := N 11 0) (by omega) (by omega), if_neg (by omega), q1, ob]
    dsimp only
    rw [q2, ob]
    dsimp +instances only
    rw [e1 (), if_pos (by omega), Int.toNat_natCast, up_row, row_row, row_s]
    exact a1
theorem lp_h4 (kk : am_M → am_Rs) {N : am_M} {w : Int} (G : GrJ N w) {U S : Nat → Int → Int} {n : Nat} (hn : n ≤ 4) (hU : ∀ k, k < n → ∀ p, U k p = vl (af_ N) w (N 14 0) (U (k + 1)) k p (S k p)) (hS : ∀ k, k < n → ∀ p, S k p = ft (af_ N) w (N 14 0) (U (k + 1)) k p) (hO : ∀ k q, 0 ≤ q ∧ q ≤ N 11 0 → -200 ≤ U k q ∧ U k q ≤ 200) : ∀ (e n1 : Nat) (f : Nat → Int), e ≤ n → e < n1 → Tg (N 11 0) U n e f → ∃ f', XL_X9_layGames_53_4 kk n1 ((e : Int) - 1) (am_row N 68 f) = kk (am_row N 68 f') ∧ Tg (N 11 0) U n 0 f' := by
  intro e
  induction e with
  | zero =>
    intro n1 f he hn1 hT
    obtain ⟨n1, rfl⟩ : ∃ m, n1 = m + 1 := ⟨n1 - 1, by omega⟩
    refine ⟨f, ?_, hT⟩
    rw [XL_X9_layGames_53_4, XB_X9_layGames_53_4, if_pos (by decide)]
  | succ e ih =>
    intro n1 f he hn1 hT
    have rs := G.1.rs
    obtain ⟨n1, rfl⟩ : ∃ m, n1 = m + 1 := ⟨n1 - 1, by omega⟩
    obtain ⟨f1, a1, a2⟩ := lp_h6 (XB_X9_layGames_53_8 (XL_X9_layGames_53_4 kk n1)) G (U := U) (S := S) (n := n) (k := e) hn (by omega) (hU e (by omega)) (hS e (by omega)) (hO (e + 1)) (N 11 0 + 1).toNat 1000 0 f (by omega) (by omega) hT (fun p hp => by omega)
    obtain ⟨f', b1, b2'⟩ := ih n1 f1 (by omega) (by omega) a2
    refine ⟨f', ?_, b2'⟩
    rw [show ((0 : Nat) : Int) = 0 from rfl] at a1
    rw [XL_X9_layGames_53_4, XB_X9_layGames_53_4, show ((e + 1 : Nat) : Int) - 1 = (e : Int) by omega, wI_of (x := (e : Int)) (by omega) (by omega), if_neg (by omega), a1, XB_X9_layGames_53_8]
    exact b1
theorem sp_hsolve {M : am_M} (I : Ic M) {w : Int} (hw : 0 ≤ w ∧ w ≤ 9) {n : Nat} (hn : n ≤ 4) : ∃ f, X_X9_layGames_53 n w M = some (0, am_row (am_up (am_up M 53 29 n) 53 30 w) 68 f) ∧ Tg (M 11 0) (uV M w n) n 0 f := by
  have rs := I.rs
  have G : GrJ (am_up (am_up M 53 29 n) 53 30 w) w := ⟨Kc.ic I ((Kc.up53 (by decide)).tr (Kc.up53 (by decide))), up_s, hw⟩
  obtain ⟨f1, a1, a2⟩ := lp_h1 (XB_X9_layGames_53_3 (XL_X9_layGames_53_4 XB_X9_layGames_53_9 1000)) G.1 hn (M 11 0 + 1).toNat 1000 0 (M 68) (show ((0 : Nat) : Int) + _ = M 11 0 + 1 by omega) (by omega) (fun p hp => by omega)
  obtain ⟨f2, b1, b2'⟩ := lp_h4 XB_X9_layGames_53_9 G (U := uV M w n) (S := uS M w n) hn (fun k hk p => uV_s hk p) (fun k hk p => rfl) (fun k q hq => uV_r I hw hn k q hq) n 1000 f1 (Nat.le_refl _) (by omega) (fun k h1 h2 p hp => by
    have : k = n := by omega
    subst this
    rw [a2 p hp]
    unfold uV
    rw [Nat.sub_self]; rfl)
  refine ⟨f2, ?_, b2'⟩
  rw [show ((0 : Nat) : Int) = 0 from rfl, show am_row (am_up (am_up M 53 29 (n : Int)) 53 30 w) 68 (M 68) = am_up (am_up M 53 29 (n : Int)) 53 30 w from row_self (am_up (am_up M 53 29 (n : Int)) 53 30 w) 68] at a1
  rw [X_X9_layGames_53, XB_X9_layGames_53_e, a1, XB_X9_layGames_53_3, b1]
  rfl
/-! the three calls -/
theorem uV_k {M N : am_M} (k : Kc M N) (w : Int) (n : Nat) : uV N w n = uV M w n ∧ uS N w n = uS M w n := by
  have ka : af_ N = af_ M := by funext b d x y; unfold af_; rw [k.1 11 (by decide), k.1 12 (by decide)]
  have k1 : uV N w n = uV M w n := by funext q p; unfold uV; rw [ka, k.1 14 (by decide), k.1 11 (by decide)]
  refine ⟨k1, ?_⟩
  funext q p
  unfold uS
  rw [k1, ka, k.1 14 (by decide)]
/-- both tables, and what they keep -/
theorem gm_both {M : am_M} (I : Inv M) {w : Int} (hw : 0 ≤ w ∧ w ≤ 9) {n : Nat} (hn : n ≤ 4) : (∃ N, X_X7_solve_44 n w M = some (0, N) ∧ Kp M N ∧ GmI N w ∧ Tg (M 11 0) (uV M w n) n 0 (N 45) ∧ Ts (M 11 0) (uS M w n) n 0 (N 46)) ∧ ∀ N : am_M, Kc M N → ∃ N2, X_X9_layGames_53 n w N = some (0, N2) ∧ Kp N N2 ∧ GrJ N2 w ∧ N2 53 29 = n ∧ Tg (M 11 0) (uV M w n) n 0 (N2 68) := by
  constructor
  · obtain ⟨f, g, a1, a2, a3⟩ := sp_gsolve I.b.c hw hn
    exact ⟨_, a1, ((Kp.up (by decide)).tr (Kp.row (by decide))).tr (Kp.row (by decide)), ⟨Kc.ic I.b.c (((Kc.up (by decide)).tr (Kc.row (by decide))).tr (Kc.row (by decide))), by first | exact up_s | (rw [row_a (by decide), row_a (by decide)]; exact up_s) | (rw [row_a (by decide)]; exact up_s), hw⟩, a2, a3⟩
  · intro N k
    obtain ⟨f, a1, a2⟩ := sp_hsolve (Kc.ic I.b.c k) hw hn
    rw [(uV_k k w n).1, k.1 11 (by decide)] at a2
    exact ⟨_, a1, ((Kp.up53 (by decide)).tr (Kp.up53 (by decide))).tr (Kp.row (by decide)), ⟨Kc.ic (Kc.ic I.b.c k) (((Kc.up53 (by decide)).tr (Kc.up53 (by decide))).tr (Kc.row (by decide))), by first | exact up_s | (rw [row_a (by decide)]; exact up_s), hw⟩, by rw [row_a (by decide), up_j (by decide), up_s], a2⟩
theorem Tg.at {s : Int} {U : Nat → Int → Int} {n : Nat} {f : Nat → Int} {b : Int} (hT : Tg s U n 0 f) (hb : 0 ≤ b ∧ b ≤ s) : f b.toNat = U 0 b := by
  obtain ⟨q, rfl⟩ := Int.eq_ofNat_of_zero_le hb.1
  have := hT 0 (Nat.le_refl _) (Nat.zero_le _) q hb.2
  rw [Nat.mul_zero, Nat.zero_add] at this
  rw [Int.toNat_natCast]; exact this
theorem eq_game {M : am_M} (I : Inv M) {n v : Int} (hn : iR n) (hv : iR v) : Step (X_X8_game_0 n v) (X_X9_game_53 n v) M := gd_game I hn hv fun h1 h2 => by
  obtain ⟨n, rfl⟩ := Int.eq_ofNat_of_zero_le h1.1.1
  have rs := I.rs
  have r1 := I.r1
  obtain ⟨⟨N, a1, a2, a3, a4, a5⟩, mB⟩ := gm_both I h1.2 (n := n) (by omega)
  obtain ⟨q, hq⟩ := Int.eq_ofNat_of_zero_le r1.1
  obtain ⟨x, hx⟩ : ∃ x, x = uV M v n 0 (M 14 1) := ⟨_, rfl⟩
  have c0 : X_X8_game_0 n v M = some (1, cT x N) := by
    have e : N 45 (13 * 0 + q) = x := by rw [a4 0 (Nat.le_refl _) (Nat.zero_le _) q (by omega), hx, hq]
    have wo : X_X7_worthOf_44 0 (q : Int) N = some (N 45 (13 * 0 + q), N) := c_worth (k := 0) (p := q) (by omega) (by omega) N
    rw [X_X8_game_0, sp_isGame_c M hn hv, b2_t h1, ob]
    dsimp +instances only
    rw [if_neg (by decide), sp_hasNoLand I.g11, b2_f h2, ob]
    dsimp +instances only
    rw [if_pos wI_0, a1, ob]
    dsimp only
    rw [a2.1 14 (by decide), hq, wo, ob, e]
    dsimp only
    rw [sp_tell_0, ob]
  have kc : Kc M (cT x N) := a2.b.c.tr (Kb.ct N x).c
  obtain ⟨N2, b1, b2', b3, -, b5⟩ := mB _ kc
  have m0 : X_X9_game_53 n v (cT x N) = some (1, mT x N2) := by
    have e53 : (cT x N) 53 1 = M 11 0 := by rw [kc.2.1, I.es]
    have e54 : N2 54 1 = M 14 1 := by rw [b2'.2.2 1 (by decide), kc.2.2 1 (by decide), I.d1]
    rw [X_X9_game_53, sp_isGame_m _ hn hv i0, b2_t h1, ob]
    dsimp +instances only
    rw [if_neg (by decide), e53, wI_of (x := M 11 0) (by omega) (by omega), if_neg h2, b1, ob]
    dsimp +instances only
    rw [e54, wI_of (x := M 14 1) (by omega) (by omega), if_pos (by omega), b5.at r1, ← hx, sp_tell_53, ob]
  refine ⟨_, _, _, _, c0, m0, rfl, ?_⟩
  refine Kp.inv (inv_tell I x) ⟨fun a ha => ?_, fun j hj => ?_, fun j hj => ?_⟩
  · have e1 : ∀ Z : am_M, mT x Z a = Z a := fun Z => by unfold mT; rw [up_a (by omega)]
    rw [e1, e1, b2'.1 a ha]
    by_cases c : a = 0
    · subst c
      have e0 : N 0 = M 0 := a2.1 0 (by decide)
      unfold cT
      rw [up_row, up_row, row_s, row_s, e0]
    · unfold cT; rw [up_a c, up_a c, a2.1 a ha]
  · unfold mT
    by_cases c : j = 8
    · subst c; rw [up_s, up_s]
    · rw [up_j c, up_j c, b2'.2.1 j hj]
      unfold cT
      rw [up_a (by decide), up_a (by decide), a2.2.1 j hj]
  · have e1 : ∀ Z : am_M, mT x Z 54 = Z 54 := fun Z => by unfold mT; rw [up_a (by decide)]
    rw [e1, e1, b2'.2.2 j hj]
    unfold cT
    rw [up_a (by decide), up_a (by decide), a2.2.2 j hj]
theorem eq_said {M : am_M} (I : Inv M) {n v : Int} (hn : iR n) (hv : iR v) : Step (X_X8_said_0 n v) (X_X9_said_53 n v) M := gd_said I hn hv fun h1 h2 => by
  obtain ⟨n, rfl⟩ := Int.eq_ofNat_of_zero_le (show 0 ≤ n by omega)
  have rs := I.rs
  have r1 := I.r1
  obtain ⟨⟨N, a1, a2, a3, a4, a5⟩, mB⟩ := gm_both I h1.2 (n := n) (by omega)
  obtain ⟨q, hq⟩ := Int.eq_ofNat_of_zero_le r1.1
  have c0 : X_X8_said_0 n v M = some (uS M v n 0 (M 14 1), N) := by
    have e : N 46 (13 * 0 + q) = uS M v n 0 (M 14 1) := by rw [a5 0 (Nat.le_refl _) (by omega) q (by omega), hq]
    have wo : X_X7_bestSaying_44 0 (q : Int) N = some (N 46 (13 * 0 + q), N) := c_saying (k := 0) (p := q) (by omega) (by omega) N
    rw [X_X8_said_0, sp_isGame_c M hn hv, b2_t (show (0 ≤ (n : Int) ∧ (n : Int) ≤ 4) ∧ 0 ≤ v ∧ v ≤ 9 by omega), ob]
    dsimp +instances only
    rw [if_neg (by decide), wI_R hn, if_neg (by omega), sp_hasNoLand I.g11, b2_f h2, ob]
    dsimp +instances only
    rw [if_pos wI_0, a1, ob]
    dsimp only
    rw [a2.1 14 (by decide), hq, wo, ob, e, hq]
  obtain ⟨N2, b1, b2', b3, -, b5⟩ := mB _ a2.b.c
  have kc : Kc M N2 := a2.b.c.tr b2'.b.c
  have m0 : X_X9_said_53 n v N = some (uS M v n 0 (M 14 1), N2) := by
    have e53 : N 53 1 = M 11 0 := by rw [a2.2.1 1 (by decide), I.es]
    have e54 : N2 54 1 = M 14 1 := by rw [kc.2.2 1 (by decide), I.d1]
    have f0 : X_X9_firstTo_53 0 (M 14 1) N2 = some (ft (af_ N2) v (N2 14 0) (uV M v n 1) 0 (M 14 1), N2) := m_ft b3 (k := 0) (by omega) (V := uV M v n 1) (fun p hp => b5 1 (by omega) (by omega) p (by rw [kc.1 11 (by decide)] at hp; exact hp)) (fun p hp => by rw [kc.1 11 (by decide)] at hp; exact uV_r I.b.c h1.2 (by omega) 1 p hp) (p := M 14 1) (by rw [kc.1 11 (by decide)]; exact r1)
    have ka : af_ N2 = af_ M := by funext b d x y; unfold af_; rw [kc.1 11 (by decide), kc.1 12 (by decide)]
    rw [ka, kc.1 14 (by decide)] at f0
    rw [X_X9_said_53, sp_isGame_m _ hn hv i1, b2_t h1, ob]
    dsimp +instances only
    rw [if_neg (by decide), e53, wI_of (x := M 11 0) (by omega) (by omega), if_neg h2, b1, ob]
    dsimp +instances only
    rw [e54, f0, ob]
    rfl
  exact st_kp I c0 a2 m0 b2' rfl
/-! both polite all the time -/
theorem lp_calmC (k4 k6 : am_M → am_Rs) {M : am_M} {w : Int} (G : GmI M w) {n : Nat} (hn : n ≤ 4) (hT : Tg (M 11 0) (uV M w n) n 0 (M 45)) (hS : Ts (M 11 0) (uS M w n) n 0 (M 46)) : ∀ (e n1 k : Nat), k + e = n → e < n1 → ((∀ j, k ≤ j → j < n → uS M w n j (M 14 1) = 0 ∧ pk (gb (af_ M) w (M 14 0) (uV M w n (j + 1)) j (M 14 1) 0) = 0) → XL_X7_isCalm_44_1 k4 k6 n1 n k M = k6 M) ∧ (¬ (∀ j, k ≤ j → j < n → uS M w n j (M 14 1) = 0 ∧ pk (gb (af_ M) w (M 14 0) (uV M w n (j + 1)) j (M 14 1) 0) = 0) → XL_X7_isCalm_44_1 k4 k6 n1 n k M = k4 M) := by
  intro e
  induction e with
  | zero =>
    intro n1 k hk hn1
    obtain ⟨n1, rfl⟩ : ∃ m, n1 = m + 1 := ⟨n1 - 1, by omega⟩
    refine ⟨fun _ => ?_, fun h => absurd (fun j h1 h2 => by omega) h⟩
    rw [XL_X7_isCalm_44_1, XB_X7_isCalm_44_1, wI_of (x := (k : Int)) (by omega) (by omega), wI_of (x := (n : Int)) (by omega) (by omega), if_neg (by omega)]
  | succ e ih =>
    intro n1 k hk hn1
    have rs := G.1.rs
    have r1 := G.1.r1
    obtain ⟨n1, rfl⟩ : ∃ m, n1 = m + 1 := ⟨n1 - 1, by omega⟩
    obtain ⟨q, hq⟩ := Int.eq_ofNat_of_zero_le r1.1
    have s1 : X_X7_bestSaying_44 k (M 14 1) M = some (uS M w n k (M 14 1), M) := by
      rw [hq, c_saying (by omega) (by omega), hS k (by omega) (by omega) q (by omega)]
    have s2 : X_X7_bestReply_44 k (M 14 1) 0 M = some (pk (gb (af_ M) w (M 14 0) (uV M w n (k + 1)) k (M 14 1) 0), M) := c_reply G (by omega) (V := uV M w n (k + 1)) (fun p hp => hT (k + 1) (by omega) (by omega) p hp) (fun p hp => uV_r G.1 G.2.2 hn (k + 1) p hp) r1 (by decide)
    have u1 := pk_r (fun a => -(vl (af_ M) w (M 14 0) (uV M w n (k + 1)) k (M 14 1) a))
    change 0 ≤ uS M w n k (M 14 1) ∧ uS M w n k (M 14 1) ≤ 3 at u1
    have u2 := pk_r (gb (af_ M) w (M 14 0) (uV M w n (k + 1)) k (M 14 1) 0)
    have ih := ih n1 (k + 1) (by omega) (by omega)
    have st : XL_X7_isCalm_44_1 k4 k6 (n1 + 1) n k M = if uS M w n k (M 14 1) = 0 then (if pk (gb (af_ M) w (M 14 0) (uV M w n (k + 1)) k (M 14 1) 0) = 0 then XL_X7_isCalm_44_1 k4 k6 n1 n ((k + 1 : Nat) : Int) M else k4 M) else k4 M := by
      rw [XL_X7_isCalm_44_1, XB_X7_isCalm_44_1, wI_of (x := (k : Int)) (by omega) (by omega), wI_of (x := (n : Int)) (by omega) (by omega), if_pos (by omega), s1, ob]
      dsimp +instances only
      rw [s2, ob]
      dsimp +instances only
      generalize uS M w n k (M 14 1) = x at u1 ⊢
      generalize pk (gb (af_ M) w (M 14 0) (uV M w n (k + 1)) k (M 14 1) 0) = y at u2 ⊢
      rw [wI_of (x := x) (by omega) (by omega), wI_of (x := y) (by omega) (by omega)]
      rfl
    rw [st]
    by_cases c1 : uS M w n k (M 14 1) = 0
    · rw [if_pos c1]
      by_cases c2 : pk (gb (af_ M) w (M 14 0) (uV M w n (k + 1)) k (M 14 1) 0) = 0
      · rw [if_pos c2]
        refine ⟨fun h => ih.1 fun j h1 h2 => h j (by omega) h2, fun h => ih.2 fun h' => h fun j h1 h2 => ?_⟩
        rcases Nat.lt_or_eq_of_le h1 with h3 | h3
        · exact h' j h3 h2
        · subst h3; exact ⟨c1, c2⟩
      · rw [if_neg c2]
        exact ⟨fun h => absurd (h k (Nat.le_refl _) (by omega)).2 c2, fun _ => rfl⟩
    · rw [if_neg c1]
      exact ⟨fun h => absurd (h k (Nat.le_refl _) (by omega)).1 c1, fun _ => rfl⟩
theorem lp_calmM (k12 : Int → am_M → am_Rs) {M : am_M} {w : Int} (G : GrJ M w) {n : Nat} (hn : n ≤ 4) (h29 : M 53 29 = n) (hT : Tg (M 11 0) (uV M w n) n 0 (M 68)) : ∀ (e n1 k : Nat) (v : Int), (v = 0 ∨ v = 1) → k + e = n → e < n1 → ((v = 1 ∧ ∀ j, k ≤ j → j < n → uS M w n j (M 14 1) = 0 ∧ pk (gb (af_ M) w (M 14 0) (uV M w n (j + 1)) j (M 14 1) 0) = 0) → XL_X9_calm_53_5 k12 n1 v k M = k12 1 M) ∧ (¬ (v = 1 ∧ ∀ j, k ≤ j → j < n → uS M w n j (M 14 1) = 0 ∧ pk (gb (af_ M) w (M 14 0) (uV M w n (j + 1)) j (M 14 1) 0) = 0) → XL_X9_calm_53_5 k12 n1 v k M = k12 0 M) := by
  intro e
  induction e with
  | zero =>
    intro n1 k v hv hk hn1
    obtain ⟨n1, rfl⟩ : ∃ m, n1 = m + 1 := ⟨n1 - 1, by omega⟩
    have st : XL_X9_calm_53_5 k12 (n1 + 1) v k M = k12 v M := by
      rw [XL_X9_calm_53_5, XB_X9_calm_53_5, h29, wI_of (x := (k : Int)) (by omega) (by omega), wI_of (x := (n : Int)) (by omega) (by omega), if_neg (by omega)]
    rw [st]
    refine ⟨fun h => by rw [h.1], fun h => ?_⟩
    rcases hv with rfl | rfl
    · rfl
    · exact absurd ⟨rfl, fun j h1 h2 => by omega⟩ h
  | succ e ih =>
    intro n1 k v hv hk hn1
    have rs := G.1.rs
    have r1 := G.1.r1
    obtain ⟨n1, rfl⟩ : ∃ m, n1 = m + 1 := ⟨n1 - 1, by omega⟩
    have hV : ∀ p : Nat, (p : Int) ≤ M 11 0 → M 68 (13 * (k + 1) + p) = uV M w n (k + 1) p := fun p hp => hT (k + 1) (by omega) (by omega) p hp
    have hO := fun p hp => uV_r G.1 G.2.2 hn (k + 1) p hp
    have s1 : X_X9_firstTo_53 k (M 14 1) M = some (uS M w n k (M 14 1), M) := m_ft G (by omega) hV hO r1
    have s2 : X_X9_answerTo_53 k (M 14 1) 0 M = some (pk (gb (af_ M) w (M 14 0) (uV M w n (k + 1)) k (M 14 1) 0), M) := m_answer G (by omega) hV hO r1 (by decide)
    have u1 := pk_r (fun a => -(vl (af_ M) w (M 14 0) (uV M w n (k + 1)) k (M 14 1) a))
    change 0 ≤ uS M w n k (M 14 1) ∧ uS M w n k (M 14 1) ≤ 3 at u1
    have u2 := pk_r (gb (af_ M) w (M 14 0) (uV M w n (k + 1)) k (M 14 1) 0)
    have st : XL_X9_calm_53_5 k12 (n1 + 1) v k M = if v = 0 then XL_X9_calm_53_5 k12 n1 0 ((k + 1 : Nat) : Int) M else if uS M w n k (M 14 1) = 0 then (if pk (gb (af_ M) w (M 14 0) (uV M w n (k + 1)) k (M 14 1) 0) = 0 then XL_X9_calm_53_5 k12 n1 1 ((k + 1 : Nat) : Int) M else XL_X9_calm_53_5 k12 n1 0 ((k + 1 : Nat) : Int) M) else XL_X9_calm_53_5 k12 n1 0 ((k + 1 : Nat) : Int) M := by
      rw [XL_X9_calm_53_5, XB_X9_calm_53_5, h29, wI_of (x := (k : Int)) (by omega) (by omega), wI_of (x := (n : Int)) (by omega) (by omega), if_pos (by omega), G.1.d1, s1, ob]
      dsimp +instances only
      rw [G.1.d1, s2, ob]
      dsimp +instances only
      generalize uS M w n k (M 14 1) = x at u1 ⊢
      generalize pk (gb (af_ M) w (M 14 0) (uV M w n (k + 1)) k (M 14 1) 0) = y at u2 ⊢
      rw [wI_of (x := x) (by omega) (by omega), wI_of (x := y) (by omega) (by omega), wI_of (x := v) (by omega) (by omega)]
      rfl
    have i0 := (ih n1 (k + 1) 0 (Or.inl rfl) (by omega) (by omega)).2 (fun h => absurd h.1 (by decide))
    have i1 := ih n1 (k + 1) 1 (Or.inr rfl) (by omega) (by omega)
    rw [st]
    rcases hv with rfl | rfl
    · rw [if_pos rfl]
      exact ⟨fun h => absurd h.1 (by decide), fun _ => i0⟩
    · rw [if_neg (by decide)]
      by_cases c1 : uS M w n k (M 14 1) = 0
      · rw [if_pos c1]
        by_cases c2 : pk (gb (af_ M) w (M 14 0) (uV M w n (k + 1)) k (M 14 1) 0) = 0
        · rw [if_pos c2]
          refine ⟨fun h => i1.1 ⟨rfl, fun j h1 h2 => h.2 j (by omega) h2⟩, fun h => i1.2 fun h' => h ⟨rfl, fun j h1 h2 => ?_⟩⟩
          rcases Nat.lt_or_eq_of_le h1 with h3 | h3
          · exact h'.2 j h3 h2
          · subst h3; exact ⟨c1, c2⟩
        · rw [if_neg c2]
          exact ⟨fun h => absurd (h.2 k (Nat.le_refl _) (by omega)).2 c2, fun _ => i0⟩
      · rw [if_neg c1]
        exact ⟨fun h => absurd (h.2 k (Nat.le_refl _) (by omega)).1 c1, fun _ => i0⟩
theorem eq_calm {M : am_M} (I : Inv M) {n v : Int} (hn : iR n) (hv : iR v) : Step (X_X8_calm_0 n v) (X_X9_calm_53 n v) M := gd_calm I hn hv fun h1 h2 => by
  obtain ⟨n, rfl⟩ := Int.eq_ofNat_of_zero_le h1.1.1
  have rs := I.rs
  have r1 := I.r1
  obtain ⟨⟨N, a1, a2, a3, a4, a5⟩, mB⟩ := gm_both I h1.2 (n := n) (by omega)
  have kN := a2.b.c
  obtain ⟨N2, b1, b2', b3, b4, b5⟩ := mB _ kN
  have kc : Kc M N2 := kN.tr b2'.b.c
  have lc := lp_calmC XB_X7_isCalm_44_4 XB_X7_isCalm_44_6 a3 (n := n) (by omega) (by rw [(uV_k kN v n).1, kN.1 11 (by decide)]; exact a4) (by rw [(uV_k kN v n).2, kN.1 11 (by decide)]; exact a5) n 1000 0 (by omega) (by omega)
  have lm := lp_calmM XB_X9_calm_53_12 b3 (n := n) (by omega) b4 (by rw [(uV_k kc v n).1, kc.1 11 (by decide)]; exact b5) n 1000 0 1 (Or.inr rfl) (by omega) (by omega)
  have ka : af_ N = af_ M := by funext b d x y; unfold af_; rw [kN.1 11 (by decide), kN.1 12 (by decide)]
  have ka2 : af_ N2 = af_ M := by funext b d x y; unfold af_; rw [kc.1 11 (by decide), kc.1 12 (by decide)]
  rw [(uV_k kN v n).1, (uV_k kN v n).2, kN.1 14 (by decide), ka, show ((0 : Nat) : Int) = 0 from rfl] at lc
  rw [(uV_k kc v n).1, (uV_k kc v n).2, kc.1 14 (by decide), ka2, show ((0 : Nat) : Int) = 0 from rfl] at lm
  have e53 : N 53 1 = M 11 0 := by rw [a2.2.1 1 (by decide), I.es]
  have cS : X_X8_calm_0 n v M = (X_X7_isCalm_44 n N).bind fun z4 => if wI z4.1 = 0 then some (0, z4.2) else some (1, z4.2) := by
    rw [X_X8_calm_0, sp_isGame_c M hn hv, b2_t h1, ob]
    dsimp +instances only
    rw [if_neg (by decide), sp_hasNoLand I.g11, b2_f h2, ob]
    dsimp +instances only
    rw [if_pos wI_0, a1, ob]
  have mS : X_X9_calm_53 n v N = XL_X9_calm_53_5 XB_X9_calm_53_12 1000 1 0 N2 := by
    rw [X_X9_calm_53, XB_X9_calm_53_e, sp_isGame_m _ hn hv i0, b2_t h1, ob]
    dsimp +instances only
    rw [if_neg (by decide), e53, wI_of (x := M 11 0) (by omega) (by omega), if_neg h2, b1, ob]
  by_cases c : ∀ j, 0 ≤ j → j < n → uS M v n j (M 14 1) = 0 ∧ pk (gb (af_ M) v (M 14 0) (uV M v n (j + 1)) j (M 14 1) 0) = 0
  · have c0 : X_X8_calm_0 n v M = some (1, N) := by
      rw [cS, X_X7_isCalm_44, XB_X7_isCalm_44_e, lc.1 c, XB_X7_isCalm_44_6, ob]
      dsimp +instances only
      rw [if_neg (by decide)]
    have m0 : X_X9_calm_53 n v N = some (1, N2) := by
      rw [mS, lm.1 ⟨rfl, c⟩, XB_X9_calm_53_12, if_neg (by decide)]
    exact st_kp I c0 a2 m0 b2' rfl
  · have c0 : X_X8_calm_0 n v M = some (0, N) := by
      rw [cS, X_X7_isCalm_44, XB_X7_isCalm_44_e, lc.2 c, XB_X7_isCalm_44_4, ob]
      dsimp +instances only
      rw [if_pos wI_0]
    have m0 : X_X9_calm_53 n v N = some (0, N2) := by
      rw [mS, lm.2 (fun h => c h.2), XB_X9_calm_53_12, if_pos wI_0]
    exact st_kp I c0 a2 m0 b2' rfl
