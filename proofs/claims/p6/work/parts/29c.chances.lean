/-! Days by chance, the reference's side. -/
noncomputable def mem3 (M : am_M) (a b : Nat → Int) (P : Int) : am_M := fun c => if c = 66 then a else if c = 67 then b else if c = 53 then (fun j => if j = 27 then P else M 53 j) else M c
theorem m3_a {M : am_M} {a b : Nat → Int} {P : Int} {c : Nat} (h1 : c ≠ 66) (h2 : c ≠ 67) (h3 : c ≠ 53) : mem3 M a b P c = M c := by
  unfold mem3
  rw [if_neg h1, if_neg h2, if_neg h3]
theorem m3_66 (M : am_M) (a b : Nat → Int) (P : Int) : mem3 M a b P 66 = a := rfl
theorem m3_67 (M : am_M) (a b : Nat → Int) (P : Int) : mem3 M a b P 67 = b := rfl
theorem m3_27 (M : am_M) (a b : Nat → Int) (P : Int) : mem3 M a b P 53 27 = P := rfl
theorem m3_u67 (M : am_M) (a b : Nat → Int) (P : Int) (j : Nat) (v : Int) : am_up (mem3 M a b P) 67 j v = mem3 M a (fun i => if i = j then v else b i) P := by
  funext c
  by_cases c1 : c = 67
  · subst c1; rfl
  · rw [up_a c1]
    unfold mem3
    rw [if_neg c1, if_neg c1]
theorem m3_u66 (M : am_M) (a b : Nat → Int) (P : Int) (j : Nat) (v : Int) : am_up (mem3 M a b P) 66 j v = mem3 M (fun i => if i = j then v else a i) b P := by
  funext c
  by_cases c1 : c = 66
  · subst c1; rfl
  · rw [up_a c1]
    unfold mem3
    rw [if_neg c1, if_neg c1]
theorem m3_u27 (M : am_M) (a b : Nat → Int) (P : Int) (v : Int) : am_up (mem3 M a b P) 53 27 v = mem3 M a b v := by
  funext c
  by_cases c1 : c = 53
  · subst c1
    funext j
    show (if j = 27 then v else (if j = 27 then P else M 53 j)) = (if j = 27 then v else M 53 j)
    split <;> rfl
  · rw [up_a c1]
    unfold mem3
    rw [if_neg c1, if_neg c1]
theorem m3_self (M : am_M) : mem3 M (M 66) (M 67) (M 53 27) = M := by
  funext c
  unfold mem3
  by_cases c1 : c = 66
  · subst c1; rfl
  · rw [if_neg c1]
    by_cases c2 : c = 67
    · subst c2; rfl
    · rw [if_neg c2]
      by_cases c3 : c = 53
      · subst c3
        rw [if_pos rfl]
        funext j
        by_cases e : j = 27
        · subst e; rfl
        · rw [if_neg e]
      · rw [if_neg c3]
theorem m3_K (M : am_M) (a b : Nat → Int) (P : Int) : Kp M (mem3 M a b P) :=
  ⟨fun c q => m3_a (by omega) (by omega) (by omega), fun j q => by show (if j = 27 then P else M 53 j) = M 53 j; rw [if_neg (by omega)], fun j _ => by rw [m3_a (by decide) (by decide) (by decide)]⟩
/-- how far a pair moves the border -/
noncomputable def dlt (r1 r2 x y : Int) : Int := if y < x then (if r1 = -1 ∨ x - y < r1 then 0 else -1) else if x = y then 0 else (if r2 = -1 ∨ y - x < r2 then 0 else 1)
theorem af_d (M : am_M) (p d x y : Int) : af_ M p d x y = p + dlt (mv_ M p (-1) d) (mv_ M p 1 d) x y := by
  unfold af_ aft dlt mv_
  by_cases c1 : y < x
  · have e1 : cmp_ y x = -1 := if_pos c1
    have e2 : gap_ x y = x - y := if_neg (by omega)
    rw [e1, e2, if_pos c1]
    split
    · exact (Int.add_zero p).symm
    · rfl
  · rw [if_neg c1]
    by_cases c2 : x = y
    · subst c2
      have e1 : cmp_ x x = 0 := by unfold cmp_; rw [if_neg (by omega), if_pos rfl]
      rw [e1, if_pos rfl]
      split
      · exact (Int.add_zero p).symm
      · rfl
    · have e1 : cmp_ y x = 1 := by unfold cmp_; rw [if_neg c1, if_neg (fun h => c2 h.symm)]
      have e2 : gap_ x y = y - x := if_pos (by omega)
      rw [e1, e2, if_neg c2]
      split
      · exact (Int.add_zero p).symm
      · rfl
noncomputable def cn_ (r1 r2 t : Int) : Int := sf (fun i => if dlt r1 r2 ((i / 4 : Nat) : Int) ((i % 4 : Nat) : Int) = t then 1 else 0) 0 16
theorem cn_v (r1 r2 : Int) (h1 : r1 = -1 ∨ r1 = 1 ∨ r1 = 2) (h2 : r2 = -1 ∨ r2 = 1 ∨ r2 = 2) : cn_ r1 r2 (-1) = pw r1 ∧ cn_ r1 r2 0 = 16 - pw r1 - pw r2 ∧ cn_ r1 r2 1 = pw r2 := by
  rcases h1 with rfl | rfl | rfl <;> rcases h2 with rfl | rfl | rfl <;> decide
theorem cn_o (r1 r2 t : Int) (h : t ≠ -1 ∧ t ≠ 0 ∧ t ≠ 1) : cn_ r1 r2 t = 0 := by
  unfold cn_
  rw [sf_c (b := fun _ => 0) _ _ (fun i _ _ => by
    refine if_neg (fun e => ?_)
    unfold dlt at e
    split at e
    · split at e <;> omega
    · split at e
      · omega
      · split at e <;> omega), sf_zero]
/-- where a pair leads -/
noncomputable def to_ (M : am_M) (stop d : Int) (p i : Nat) : Int := if (p : Int) = stop then p else af_ M p d ((i / 4 : Nat) : Int) ((i % 4 : Nat) : Int)
theorem to_r {M : am_M} {stop d : Int} {p : Nat} (hp : (p : Int) ≤ M 11 0) (i : Nat) : 0 ≤ to_ M stop d p i ∧ to_ M stop d p i ≤ M 11 0 := by
  unfold to_
  split
  · omega
  · exact af_r (by omega)
theorem ct_e (M : am_M) (stop d : Int) (p q : Nat) : sf (fun i => if to_ M stop d p i = (q : Int) then 1 else 0) 0 16 = ct M stop d p q := by
  unfold ct
  by_cases c : (p : Int) = stop
  · rw [if_pos c]
    by_cases e : q = p
    · rw [if_pos e, sf_c (b := fun _ => 1) _ _ (fun i _ _ => by unfold to_; rw [if_pos c, if_pos (by omega)])]
      decide
    · rw [if_neg e, sf_c (b := fun _ => 0) _ _ (fun i _ _ => by unfold to_; rw [if_pos c, if_neg (by omega)]), sf_zero]
  · rw [if_neg c]
    have h1 := mv_nz (M := M) (b := p) (m := -1) (d := d) (by decide)
    have h2 := mv_nz (M := M) (b := p) (m := 1) (d := d) (by decide)
    have hv := cn_v _ _ h1 h2
    have e0 : sf (fun i => if to_ M stop d p i = (q : Int) then 1 else 0) 0 16 = cn_ (mv_ M p (-1) d) (mv_ M p 1 d) ((q : Int) - p) := by
      unfold cn_
      refine sf_c _ _ (fun i _ _ => ?_)
      unfold to_
      rw [if_neg c, af_d]
      generalize dlt (mv_ M p (-1) d) (mv_ M p 1 d) ((i / 4 : Nat) : Int) ((i % 4 : Nat) : Int) = x
      by_cases e : x = (q : Int) - p
      · rw [if_pos e, if_pos (by omega)]
      · rw [if_neg e, if_neg (by omega)]
    rw [e0]
    by_cases e1 : (q : Int) = p - 1
    · rw [if_pos e1, if_neg (by omega), if_neg (by omega), show (q : Int) - p = -1 by omega, hv.1, Int.add_zero, Int.add_zero]
    · by_cases e2 : q = p
      · rw [if_neg e1, if_pos e2, if_neg (by omega), show (q : Int) - p = 0 by omega, hv.2.1, Int.zero_add, Int.add_zero]
      · by_cases e3 : q = p + 1
        · rw [if_neg e1, if_neg e2, if_pos e3, show (q : Int) - p = 1 by omega, hv.2.2, Int.zero_add, Int.zero_add]
        · rw [if_neg e1, if_neg e2, if_neg e3, cn_o _ _ _ (by omega)]; rfl
theorem dot_up {s : Int} {b : Nat → Int} {t : Nat} (ht : (t : Int) ≤ s) (v : Int) (V : Int → Int) : dot s (fun i => if i = t then b i + v else b i) V = dot s b V + v * V t := by
  unfold dot
  rw [sf_c (b := fun q => b q * V q + (if q = t then 1 else 0) * (v * V q)) _ _ (fun q _ _ => by
    show (if q = t then b q + v else b q) * V q = _
    by_cases e : q = t
    · rw [if_pos e, if_pos e, Int.add_mul, Int.one_mul]
    · rw [if_neg e, if_neg e, Int.zero_mul, Int.add_zero]), sf_add, sf_one (fun q => v * V q), if_pos (by omega)]
noncomputable def sO (strip : Int) (x : Int) : Int := if strip < 0 then 0 else x
theorem m_said (k22 : Int → Int → Int → Int → Int → Int → am_M → am_Rs) {M : am_M} (I : Ic M) {n stop strip v4 d : Int} (hst : -1 ≤ stop ∧ stop ≤ 12) (hsp : strip = -1 ∨ (0 ≤ strip ∧ strip < M 11 0)) (hd : 0 ≤ d ∧ d < 1000) {p j : Nat} (hp : (p : Int) ≤ M 11 0) (hj : j < 16) {t : Nat} (ht : (t : Int) = to_ M stop d p j) (a b : Nat → Int) (P : Int) (n1 : Nat) : XL_X9_layChances_53_14 k22 (n1 + 1) n stop strip v4 d p j (mem3 M a b P) = XL_X9_layChances_53_14 k22 n1 n stop strip v4 d p ((j + 1 : Nat) : Int) (mem3 M a (fun i => if i = t then b i + a p else b i) (P + sO strip (a p * tx d (db_ M strip) t))) := by
  have rs := I.rs
  have hr := to_r (stop := stop) (d := d) hp j
  have ht12 : t < 13 := by omega
  have py : ∀ b', 0 ≤ strip ∧ strip < M 11 0 → X_X9_paysOn_53 strip d t (mem3 M a b' P) = some (tx d (db_ M strip) t, mem3 M a b' P) := fun b' h => by
    have k := (m3_K M a b' P).b.c
    rw [km_paysOn (Kc.ic I k) (by rw [k.1 11 (by decide)]; exact h) hd (by omega), k.db]; rfl
  have hw : 0 ≤ strip ∧ strip < M 11 0 → ∀ _ : Unit, wI (tx d (db_ M strip) t) = tx d (db_ M strip) t := fun h _ => by
    have h1 := kdu_r I 0 strip t
    have h2 := kdu_r I 1 strip t
    unfold tx db_
    generalize du_ M 0 strip t = x at h1 ⊢
    generalize du_ M 1 strip t = y at h2 ⊢
    split
    · exact wI_of (by omega) (by omega)
    · rfl
  have fn : (fun i => if i = t then b t + a p else b i) = fun i => if i = t then b i + a p else b i := by
    funext i
    by_cases e : i = t
    · subst e; rfl
    · rw [if_neg e, if_neg e]
  rw [XL_X9_layChances_53_14, XB_X9_layChances_53_14, wI_of (x := (j : Int)) (by omega) (by omega), if_pos (by omega), wI_of (x := (p : Int)) (by omega) (by omega), wI_of (x := stop) (by omega) (by omega)]
  simp only [if_pos (show 0 ≤ (p : Int) ∧ (p : Int) < 13 by omega), Int.toNat_natCast, m3_u67, m3_66, m3_67, m3_27, m3_u27]
  by_cases c : (p : Int) = stop
  · have tp : t = p := by unfold to_ at ht; rw [if_pos c] at ht; omega
    subst tp
    rw [if_pos c]
    rcases hsp with h | h
    · subst h
      rw [if_pos (show wI (-1) < 0 by decide), fn]
      show _ = XL_X9_layChances_53_14 k22 n1 n stop (-1) v4 d t ((j + 1 : Nat) : Int) (mem3 M a _ (P + 0))
      rw [Int.natCast_succ]
    · rw [if_neg (show ¬ wI strip < 0 by rw [wI_of (by omega) (by omega)]; omega), py _ h, ob]
      dsimp only
      rw [hw h (), m3_u27, fn, Int.natCast_succ]
      unfold sO
      rw [if_neg (by omega)]
  · have ta : (t : Int) = af_ M p d ((j / 4 : Nat) : Int) ((j % 4 : Nat) : Int) := by rw [ht]; unfold to_; rw [if_neg c]
    have k := (m3_K M a b P).b.c
    have e1 : (j : Int).tdiv 4 = ((j / 4 : Nat) : Int) := by rw [Int.tdiv_eq_ediv_of_nonneg (by omega)]; omega
    have e2 : (j : Int).tmod 4 = ((j % 4 : Nat) : Int) := by rw [Int.tmod_eq_emod_of_nonneg (by omega)]; omega
    have bh : X_X9_behind_53 p d ((j / 4 : Nat) : Int) ((j % 4 : Nat) : Int) (mem3 M a b P) = some ((t : Int), mem3 M a b P) := by
      have q : af_ (mem3 M a b P) p d ((j / 4 : Nat) : Int) ((j % 4 : Nat) : Int) = (t : Int) := by rw [ta]; unfold af_; rw [k.1 11 (by decide), k.1 12 (by decide)]
      rw [km_aft (Kc.ic I k) (by rw [k.1 11 (by decide)]; omega) hd (by omega) (by omega), q]
    rw [if_neg c, e1, e2, bh, ob]
    dsimp +instances only
    rw [wI_of (x := (t : Int)) (by omega) (by omega)]
    simp only [if_pos (show 0 ≤ (t : Int) ∧ (t : Int) < 13 by omega), Int.toNat_natCast, m3_u67, m3_66, m3_67, m3_27, m3_u27]
    rcases hsp with h | h
    · subst h
      rw [if_pos (show wI (-1) < 0 by decide), fn]
      show _ = XL_X9_layChances_53_14 k22 n1 n stop (-1) v4 d p ((j + 1 : Nat) : Int) (mem3 M a _ (P + 0))
      rw [Int.natCast_succ]
    · rw [if_neg (show ¬ wI strip < 0 by rw [wI_of (by omega) (by omega)]; omega), py _ h, ob]
      dsimp only
      rw [hw h (), m3_u27, fn, Int.natCast_succ]
      unfold sO
      rw [if_neg (by omega)]
theorem lp_said (k22 : Int → Int → Int → Int → Int → Int → am_M → am_Rs) {M : am_M} (I : Ic M) {n stop strip v4 d : Int} (hst : -1 ≤ stop ∧ stop ≤ 12) (hsp : strip = -1 ∨ (0 ≤ strip ∧ strip < M 11 0)) (hd : 0 ≤ d ∧ d < 1000) {p : Nat} (hp : (p : Int) ≤ M 11 0) (a : Nat → Int) : ∀ (e n1 j : Nat) (b : Nat → Int) (P : Int), j + e = 16 → e < n1 → ∃ b' P', XL_X9_layChances_53_14 k22 n1 n stop strip v4 d p j (mem3 M a b P) = k22 n stop strip v4 d p (mem3 M a b' P') ∧ (∀ q, b' q = b q + a p * sf (fun i => if to_ M stop d p i = (q : Int) then 1 else 0) j e) ∧ P' = P + sO strip (dot (M 11 0) b' (tx d (db_ M strip)) - dot (M 11 0) b (tx d (db_ M strip))) := by
  intro e
  induction e with
  | zero =>
    intro n1 j b P hj hn1
    obtain ⟨n1, rfl⟩ : ∃ m, n1 = m + 1 := ⟨n1 - 1, by omega⟩
    refine ⟨b, P, ?_, fun q => by simp only [sf, Int.mul_zero, Int.add_zero], ?_⟩
    · rw [XL_X9_layChances_53_14, XB_X9_layChances_53_14, wI_of (x := (j : Int)) (by omega) (by omega), if_neg (by omega)]
    · unfold sO; rw [Int.sub_self, ite_self, Int.add_zero]
  | succ e ih =>
    intro n1 j b P hj hn1
    obtain ⟨n1, rfl⟩ : ∃ m, n1 = m + 1 := ⟨n1 - 1, by omega⟩
    have hr := to_r (stop := stop) (d := d) hp j
    obtain ⟨t, ht⟩ := Int.eq_ofNat_of_zero_le hr.1
    have s1 := m_said k22 I (n := n) (v4 := v4) hst hsp hd hp (show j < 16 by omega) ht.symm a b P n1
    obtain ⟨b', P', h1, h2, h3⟩ := ih n1 (j + 1) (fun i => if i = t then b i + a p else b i) (P + sO strip (a p * tx d (db_ M strip) t)) (by omega) (by omega)
    refine ⟨b', P', s1.trans h1, fun q => ?_, ?_⟩
    · rw [h2 q]
      simp only [sf]
      rw [ht]
      by_cases c : q = t
      · rw [if_pos c, if_pos (by omega), Int.mul_add, Int.mul_one, Int.add_assoc]
      · rw [if_neg c, if_neg (by omega), Int.zero_add]
    · rw [h3, dot_up (by omega)]
      unfold sO
      split
      · omega
      · generalize a p * tx d (db_ M strip) t = x
        omega
theorem lp_places (k23 : Int → Int → Int → Int → am_M → am_Rs) {M : am_M} (I : Ic M) {n stop strip v4 d : Int} (hst : -1 ≤ stop ∧ stop ≤ 12) (hsp : strip = -1 ∨ (0 ≤ strip ∧ strip < M 11 0)) (hd : 0 ≤ d ∧ d < 1000) (a : Nat → Int) : ∀ (e n1 i : Nat) (b : Nat → Int) (P : Int), (i : Int) + e = M 11 0 + 1 → e < n1 → ∃ b' P', XL_X9_layChances_53_12 k23 n1 n stop strip v4 d i (mem3 M a b P) = k23 n stop strip v4 (mem3 M a b' P') ∧ (∀ q, b' q = nxv M stop d a e i b q) ∧ P' = P + sO strip (dot (M 11 0) b' (tx d (db_ M strip)) - dot (M 11 0) b (tx d (db_ M strip))) := by
  intro e
  induction e with
  | zero =>
    intro n1 i b P hi hn1
    have rs := I.rs
    obtain ⟨n1, rfl⟩ : ∃ m, n1 = m + 1 := ⟨n1 - 1, by omega⟩
    refine ⟨b, P, ?_, fun q => rfl, ?_⟩
    · rw [XL_X9_layChances_53_12, XB_X9_layChances_53_12, show (mem3 M a b P) 53 1 = M 11 0 from I.es, wI_of (x := (i : Int)) (by omega) (by omega), wI_of (x := M 11 0) (by omega) (by omega), if_pos (by omega)]
    · unfold sO; rw [Int.sub_self, ite_self, Int.add_zero]
  | succ e ih =>
    intro n1 i b P hi hn1
    have rs := I.rs
    obtain ⟨n1, rfl⟩ : ∃ m, n1 = m + 1 := ⟨n1 - 1, by omega⟩
    obtain ⟨b1, P1, g1, g2, g3⟩ := lp_said (XB_X9_layChances_53_22 (XL_X9_layChances_53_12 k23 n1)) I (n := n) (v4 := v4) hst hsp hd (p := i) (by omega) a 16 1000 0 b P (by omega) (by omega)
    have hb1 : b1 = nx1 M stop d a i b := funext fun q => by rw [g2 q, ct_e]; rfl
    obtain ⟨b', P', h1, h2, h3⟩ := ih n1 (i + 1) b1 P1 (by push_cast; omega) (by omega)
    refine ⟨b', P', ?_, fun q => ?_, ?_⟩
    · rw [show ((0 : Nat) : Int) = 0 from rfl] at g1
      rw [XL_X9_layChances_53_12, XB_X9_layChances_53_12, show (mem3 M a b P) 53 1 = M 11 0 from I.es, wI_of (x := (i : Int)) (by omega) (by omega), wI_of (x := M 11 0) (by omega) (by omega), if_neg (by omega), g1, XB_X9_layChances_53_22]
      exact h1
    · rw [h2 q, hb1]; rfl
    · rw [h3, g3]
      unfold sO
      split
      · omega
      · omega
theorem lp_zero (k11 : Int → Int → Int → Int → Int → am_M → am_Rs) {M : am_M} (n stop strip v4 d : Int) (a : Nat → Int) (P : Int) : ∀ (e n1 i : Nat) (b : Nat → Int), i + e = 13 → e < n1 → (∀ q, q < i → b q = 0) → ∃ b', XL_X9_layChances_53_9 k11 n1 n stop strip v4 d i (mem3 M a b P) = k11 n stop strip v4 d (mem3 M a b' P) ∧ ∀ q, q < 13 → b' q = 0 := by
  intro e
  induction e with
  | zero =>
    intro n1 i b hi hn1 hb
    obtain ⟨n1, rfl⟩ : ∃ m, n1 = m + 1 := ⟨n1 - 1, by omega⟩
    refine ⟨b, ?_, fun q hq => hb q (by omega)⟩
    rw [XL_X9_layChances_53_9, XB_X9_layChances_53_9, wI_of (x := (i : Int)) (by omega) (by omega), if_neg (by omega)]
  | succ e ih =>
    intro n1 i b hi hn1 hb
    obtain ⟨n1, rfl⟩ : ∃ m, n1 = m + 1 := ⟨n1 - 1, by omega⟩
    obtain ⟨b', h1, h2⟩ := ih n1 (i + 1) (fun q => if q = i then 0 else b q) (by omega) (by omega) (fun q hq => by
      by_cases c : q = i
      · rw [if_pos c]
      · rw [if_neg c]; exact hb q (by omega))
    refine ⟨b', ?_, h2⟩
    rw [XL_X9_layChances_53_9, XB_X9_layChances_53_9, wI_of (x := (i : Int)) (by omega) (by omega), if_pos (by omega), if_pos (by omega), Int.toNat_natCast, m3_u67]
    exact h1
theorem lp_cpy (k26 : Int → Int → Int → Int → am_M → am_Rs) {M : am_M} (n stop strip v4 : Int) (b : Nat → Int) (P : Int) : ∀ (e n1 i : Nat) (a : Nat → Int), i + e = 13 → e < n1 → (∀ q, q < i → a q = b q) → ∃ a', XL_X9_layChances_53_24 k26 n1 n stop strip v4 i (mem3 M a b P) = k26 n stop strip v4 (mem3 M a' b P) ∧ ∀ q, q < 13 → a' q = b q := by
  intro e
  induction e with
  | zero =>
    intro n1 i a hi hn1 ha
    obtain ⟨n1, rfl⟩ : ∃ m, n1 = m + 1 := ⟨n1 - 1, by omega⟩
    refine ⟨a, ?_, fun q hq => ha q (by omega)⟩
    rw [XL_X9_layChances_53_24, XB_X9_layChances_53_24, wI_of (x := (i : Int)) (by omega) (by omega), if_neg (by omega)]
  | succ e ih =>
    intro n1 i a hi hn1 ha
    obtain ⟨n1, rfl⟩ : ∃ m, n1 = m + 1 := ⟨n1 - 1, by omega⟩
    obtain ⟨a', h1, h2⟩ := ih n1 (i + 1) (fun q => if q = i then b i else a q) (by omega) (by omega) (fun q hq => by
      by_cases c : q = i
      · rw [if_pos c, c]
      · rw [if_neg c]; exact ha q (by omega))
    refine ⟨a', ?_, h2⟩
    rw [XL_X9_layChances_53_24, XB_X9_layChances_53_24, wI_of (x := (i : Int)) (by omega) (by omega), if_pos (by omega), if_pos (by omega), if_pos (by omega), Int.toNat_natCast, m3_67, m3_u66]
    exact h1
theorem lp_init (k6 : Int → Int → Int → am_M → am_Rs) {M : am_M} (I : Ic M) (n stop strip : Int) (b : Nat → Int) (P : Int) : ∀ (e n1 i : Nat) (a : Nat → Int), i + e = 13 → e < n1 → (∀ q : Nat, q < i → a q = if (q : Int) = M 14 1 then 1 else 0) → ∃ a', XL_X9_layChances_53_1 k6 n1 n stop strip i (mem3 M a b P) = k6 n stop strip (mem3 M a' b P) ∧ ∀ q : Nat, q < 13 → a' q = if (q : Int) = M 14 1 then 1 else 0 := by
  intro e
  induction e with
  | zero =>
    intro n1 i a hi hn1 ha
    obtain ⟨n1, rfl⟩ : ∃ m, n1 = m + 1 := ⟨n1 - 1, by omega⟩
    refine ⟨a, ?_, fun q hq => ha q (by omega)⟩
    rw [XL_X9_layChances_53_1, XB_X9_layChances_53_1, wI_of (x := (i : Int)) (by omega) (by omega), if_neg (by omega)]
  | succ e ih =>
    intro n1 i a hi hn1 ha
    have r1 := I.r1
    have rs := I.rs
    obtain ⟨n1, rfl⟩ : ∃ m, n1 = m + 1 := ⟨n1 - 1, by omega⟩
    obtain ⟨a', h1, h2⟩ := ih n1 (i + 1) (fun q => if q = i then (if (i : Int) = M 14 1 then 1 else 0) else a q) (by omega) (by omega) (fun q hq => by
      by_cases c : q = i
      · rw [if_pos c, c]
      · rw [if_neg c]; exact ha q (by omega))
    refine ⟨a', ?_, h2⟩
    rw [XL_X9_layChances_53_1, XB_X9_layChances_53_1, wI_of (x := (i : Int)) (by omega) (by omega), if_pos (by omega), show (mem3 M a b P) 54 1 = M 14 1 from I.d1, wI_of (x := M 14 1) (by omega) (by omega)]
    by_cases c : (i : Int) = M 14 1
    · simp only [if_pos c] at h1
      rw [if_pos c, if_pos (by omega), Int.toNat_natCast, m3_u66]
      exact h1
    · simp only [if_neg c] at h1
      rw [if_neg c, if_pos (by omega), Int.toNat_natCast, m3_u66]
      exact h1
theorem lp_days (k27 : am_M → am_Rs) {M : am_M} (I : Ic M) {stop strip : Int} (hst : -1 ≤ stop ∧ stop ≤ 12) (hsp : strip = -1 ∨ (0 ≤ strip ∧ strip < M 11 0)) (hss : 0 ≤ strip → stop = -1) {n : Nat} (hn : n ≤ 6) : ∀ (e n1 k : Nat) (a b : Nat → Int) (P : Int), k + e = n → e < n1 → (∀ q, q < 13 → a q = fv M stop k q) → (0 ≤ strip → P = pv M (db_ M strip) k) → ∃ a' b' P', XL_X9_layChances_53_7 k27 n1 n stop strip k (mem3 M a b P) = k27 (mem3 M a' b' P') ∧ (∀ q, q < 13 → a' q = fv M stop n q) ∧ (0 ≤ strip → P' = pv M (db_ M strip) n) := by
  intro e
  induction e with
  | zero =>
    intro n1 k a b P hk hn1 ha hP
    obtain ⟨n1, rfl⟩ : ∃ m, n1 = m + 1 := ⟨n1 - 1, by omega⟩
    refine ⟨a, b, P, ?_, by rw [← hk, Nat.add_zero]; exact ha, by rw [← hk, Nat.add_zero]; exact hP⟩
    rw [XL_X9_layChances_53_7, XB_X9_layChances_53_7, wI_of (x := (k : Int)) (by omega) (by omega), wI_of (x := (n : Int)) (by omega) (by omega), if_neg (by omega)]
  | succ e ih =>
    intro n1 k a b P hk hn1 ha hP
    have r0 := I.r0
    have rs := I.rs
    obtain ⟨n1, rfl⟩ : ∃ m, n1 = m + 1 := ⟨n1 - 1, by omega⟩
    obtain ⟨b0, z1, z2⟩ := lp_zero (XB_X9_layChances_53_11 (XL_X9_layChances_53_12 (XB_X9_layChances_53_23 (XL_X9_layChances_53_24 (XB_X9_layChances_53_26 (XL_X9_layChances_53_7 k27 n1)) 1000)) 1000)) (M := M) n stop strip k (M 14 0 + k) a (P * 16) 13 1000 0 b (by omega) (by omega) (fun q hq => by omega)
    obtain ⟨b1, P1, g1, g2, g3⟩ := lp_places (XB_X9_layChances_53_23 (XL_X9_layChances_53_24 (XB_X9_layChances_53_26 (XL_X9_layChances_53_7 k27 n1)) 1000)) I (n := n) (v4 := k) hst hsp (d := M 14 0 + k) (by omega) a (M 11 0 + 1).toNat 1000 0 b0 (P * 16) (by omega) (by omega)
    obtain ⟨a1, c1, c2⟩ := lp_cpy (XB_X9_layChances_53_26 (XL_X9_layChances_53_7 k27 n1)) (M := M) n stop strip k b1 P1 13 1000 0 a (by omega) (by omega) (fun q hq => by omega)
    have hb1 : ∀ q, q < 13 → b1 q = fv M stop (k + 1) q := fun q hq => by rw [g2 q]; exact nxv_c ha (M 11 0 + 1).toNat 0 _ _ (by omega) z2 q hq
    obtain ⟨a', b', P', h1, h2, h3⟩ := ih n1 (k + 1) a1 b1 P1 (by omega) (by omega) (fun q hq => by rw [c2 q hq, hb1 q hq]) (fun h => by
      have hs := hss h
      rw [g3, hP h, pv]
      unfold sO
      rw [if_neg (by omega)]
      have e1 : dot (M 11 0) b1 (tx (M 14 0 + k) (db_ M strip)) = dot (M 11 0) (fv M (-1) (k + 1)) (tx (M 14 0 + k) (db_ M strip)) := dot_c fun q hq => by rw [hb1 q (by omega), hs]
      have e2 : dot (M 11 0) b0 (tx (M 14 0 + k) (db_ M strip)) = 0 := by
        unfold dot
        rw [sf_c (b := fun _ => 0) _ _ (fun q _ hq => by show b0 q * _ = 0; rw [z2 q (by omega), Int.zero_mul]), sf_zero]
      rw [e1, e2, Int.sub_zero])
    refine ⟨a', b', P', ?_, h2, h3⟩
    rw [show ((0 : Nat) : Int) = 0 from rfl] at z1 g1 c1
    rw [XL_X9_layChances_53_7, XB_X9_layChances_53_7, wI_of (x := (k : Int)) (by omega) (by omega), wI_of (x := (n : Int)) (by omega) (by omega), if_pos (by omega), show (mem3 M a b P) 54 0 = M 14 0 from I.d0, m3_27, m3_u27, z1, XB_X9_layChances_53_11, g1, XB_X9_layChances_53_23, c1, XB_X9_layChances_53_26]
    exact h1
theorem sp_chances {M : am_M} (I : Ic M) {stop strip : Int} (hst : -1 ≤ stop ∧ stop ≤ 12) (hsp : strip = -1 ∨ (0 ≤ strip ∧ strip < M 11 0)) (hss : 0 ≤ strip → stop = -1) {n : Nat} (hn : n ≤ 6) : ∃ a b P, X_X9_layChances_53 n stop strip M = some (0, mem3 M a b P) ∧ (∀ q, q < 13 → a q = fv M stop n q) ∧ (0 ≤ strip → P = pv M (db_ M strip) n) := by
  obtain ⟨a0, i1, i2⟩ := lp_init (XB_X9_layChances_53_6 (XL_X9_layChances_53_7 XB_X9_layChances_53_27 1000)) I n stop strip (M 67) (M 53 27) 13 1000 0 (M 66) (by omega) (by omega) (fun q hq => by omega)
  rw [m3_self, show ((0 : Nat) : Int) = 0 from rfl] at i1
  obtain ⟨a, b, P, h1, h2, h3⟩ := lp_days XB_X9_layChances_53_27 I hst hsp hss hn n 1000 0 a0 (M 67) 0 (by omega) (by omega) i2 (fun _ => rfl)
  rw [show ((0 : Nat) : Int) = 0 from rfl] at h1
  refine ⟨a, b, P, ?_, h2, h3⟩
  rw [X_X9_layChances_53, XB_X9_layChances_53_e, i1, XB_X9_layChances_53_6, m3_u27, h1]
  rfl
