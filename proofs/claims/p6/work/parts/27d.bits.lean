/-! Sets by bits. -/
noncomputable def bit_ (x : Int) (k : Nat) : Prop := (Int32.ofInt x).toBitVec.getLsbD k = true
theorem bit_ext {x y : Int} (h : ∀ k, k < 32 → (bit_ x k ↔ bit_ y k)) : wI x = wI y := by
  rw [← wI_toInt, ← wI_toInt]
  have : (Int32.ofInt x).toBitVec = (Int32.ofInt y).toBitVec := by
    apply BitVec.eq_of_getLsbD_eq
    intro i hi
    have := h i hi
    unfold bit_ at this
    exact Bool.eq_iff_iff.mpr this
  rw [Int32.toInt, Int32.toInt, this]
theorem bit_or (x y : Int) (k : Nat) : bit_ (b_or_ x y) k ↔ bit_ x k ∨ bit_ y k := by
  unfold bit_ b_or_
  rw [Int32.ofInt_toInt, Int32.toBitVec_or, BitVec.getLsbD_or, Bool.or_eq_true]
theorem bit_0 (k : Nat) : ¬ bit_ 0 k := by
  unfold bit_
  rw [show (Int32.ofInt 0).toBitVec = 0#32 from rfl, BitVec.getLsbD_zero]
  decide
theorem bit_1 : ∀ (j k : Nat), j < 20 → k < 32 → (bit_ (b_shl_ 1 j) k ↔ k = j) := by
  have : ∀ j : Fin 20, ∀ k : Fin 32, ((Int32.ofInt (b_shl_ 1 ((j.val : Nat) : Int))).toBitVec.getLsbD k.val = true ↔ k.val = j.val) := by decide +kernel
  intro j k hj hk
  exact this ⟨j, hj⟩ ⟨k, hk⟩
theorem bit_get (x : Int) {k : Nat} (hk : k < 20) : (bit_ x k → wI (b_and_ (b_shr_ x k) 1) = 1) ∧ (¬ bit_ x k → wI (b_and_ (b_shr_ x k) 1) = 0) := by
  have hs : ∀ k : Fin 20, ((Int32.ofInt ((k.val : Nat) : Int) &&& 31).toBitVec.smod 32#32) = BitVec.ofNat 32 k.val := by decide +kernel
  have h0 := hs ⟨k, hk⟩
  have e1 : (Int32.ofInt (b_shr_ x k)).toBitVec.getLsbD 0 = (Int32.ofInt x).toBitVec.getLsbD k := by
    unfold b_shr_
    rw [Int32.ofInt_toInt, Int32.toBitVec_shiftRight]
    rw [show ((Int32.ofInt (k : Int) &&& 31).toBitVec.smod 32) = BitVec.ofNat 32 k from h0]
    rw [BitVec.sshiftRight_eq', BitVec.getLsbD_sshiftRight, BitVec.toNat_ofNat, Nat.mod_eq_of_lt (show k < 2 ^ 32 by omega), if_pos (by omega), Nat.add_zero]
    rfl
  have e2 : ∀ (y : Int) (b : Bool), (Int32.ofInt y).toBitVec.getLsbD 0 = b → wI (b_and_ y 1) = if b = true then 1 else 0 := by
    intro y b h
    unfold b_and_
    rw [Int32.toInt, Int32.toBitVec_and, show (Int32.ofInt 1).toBitVec = 1#32 from rfl, BitVec.and_one_eq_setWidth_ofBool_getLsbD, h]
    cases b <;> decide
  unfold bit_
  constructor
  · intro h; exact e2 _ true (by rw [e1, h])
  · intro h; exact e2 _ false (by rw [e1]; exact Bool.eq_false_iff.mpr h)
/-! places that can be come to -/
noncomputable def mvs (m : Int) : Prop := m = -1 ∨ m = 0 ∨ m = 1
/-- behind k days the border can be at place q -/
noncomputable def rc_ (M : am_M) : Nat → Nat → Prop
  | 0, q => (q : Int) = M 14 1
  | k + 1, q => ∃ p : Nat, rc_ M k p ∧ (p : Int) ≤ M 11 0 ∧ ∃ m : Int, mvs m ∧ mv_ M p m (M 14 0 + k) ≠ -1 ∧ (q : Int) = p + m
theorem rc_r {M : am_M} (I : Ic M) : ∀ (k q : Nat), rc_ M k q → (q : Int) ≤ M 11 0
  | 0, q, h => by have := I.r1; unfold rc_ at h; omega
  | k + 1, q, h => by
    obtain ⟨p, h1, h2, m, h3, h4, h5⟩ := h
    have := mv_in h3 (show 0 ≤ (p : Int) ∧ (p : Int) ≤ M 11 0 by omega) h4
    omega
/-- a set by bits: what is in it -/
noncomputable def BS (x : Int) (S : Nat → Prop) : Prop := ∀ k, k < 32 → (bit_ x k ↔ S k)
theorem BS.or {x y : Int} {S T : Nat → Prop} (h : BS x S) (g : BS y T) : BS (b_or_ x y) (fun k => S k ∨ T k) := fun k hk => by rw [bit_or, h k hk, g k hk]
theorem BS.z : BS 0 (fun _ => False) := fun k _ => ⟨fun h => bit_0 k h, fun h => h.elim⟩
theorem BS.one {j : Int} (h : 0 ≤ j ∧ j < 20) : BS (b_shl_ 1 j) (fun k => (k : Int) = j) := fun k hk => by
  obtain ⟨n, rfl⟩ := Int.eq_ofNat_of_zero_le h.1
  rw [bit_1 n k (by omega) hk]; omega
theorem BS.w {x y : Int} {S : Nat → Prop} (h : BS x S) (g : BS y S) : wI x = wI y := bit_ext fun k hk => by rw [h k hk, g k hk]
theorem BS.c {x : Int} {S T : Nat → Prop} (h : BS x S) (e : ∀ k, k < 32 → (S k ↔ T k)) : BS x T := fun k hk => by rw [h k hk, e k hk]
theorem BS.get {x : Int} {S : Nat → Prop} (h : BS x S) {k : Nat} (hk : k < 20) : (S k → wI (b_and_ (b_shr_ x k) 1) = 1) ∧ (¬ S k → wI (b_and_ (b_shr_ x k) 1) = 0) := by
  have := bit_get x hk
  rw [h k (by omega)] at this
  exact this
theorem c_pb1 (k : Int → am_M → am_Rs) {M : am_M} (I : Ic M) (n : Nat) {p d v m : Int} (hp : 0 ≤ p ∧ p ≤ M 11 0) (hd : 0 ≤ d ∧ d < 1000) (hm : -1 ≤ m ∧ m ≤ 1) : XL_X4_placesBehind_36_1 k (n + 1) p d v m M = XL_X4_placesBehind_36_1 k n p d (if mv_ M p m d = -1 then v else b_or_ v (b_shl_ 1 (p + m))) (m + 1) M := by
  have hr := mv_r M p m d
  rw [XL_X4_placesBehind_36_1, XB_X4_placesBehind_36_1, wI_of (x := m) (by omega) (by omega), if_neg (by omega), kc_rud I hp hm hd, ob]
  dsimp +instances only
  rw [wI_of (x := mv_ M p m d) (by omega) (by omega)]
  by_cases c : mv_ M p m d = -1
  · rw [if_pos (by omega), if_pos c]
  · rw [if_neg (by omega), if_neg c]
noncomputable def pb_ (M : am_M) (p d : Int) (q : Nat) : Prop := ∃ m : Int, mvs m ∧ mv_ M p m d ≠ -1 ∧ (q : Int) = p + m
theorem bs_if {x : Int} {S : Nat → Prop} (h : BS x S) {p m r : Int} (hp : r ≠ -1 → 0 ≤ p + m ∧ p + m < 20) : BS (if r = -1 then x else b_or_ x (b_shl_ 1 (p + m))) (fun k => S k ∨ (r ≠ -1 ∧ (k : Int) = p + m)) := by
  by_cases c : r = -1
  · rw [if_pos c]; exact h.c fun k _ => ⟨fun q => Or.inl q, fun q => q.elim id (fun w => absurd c w.1)⟩
  · rw [if_neg c]; exact (h.or (BS.one (hp c))).c fun k _ => ⟨fun q => q.elim Or.inl (fun w => Or.inr ⟨c, w⟩), fun q => q.elim Or.inl (fun w => Or.inr w.2)⟩
theorem sp_pb {M : am_M} (I : Ic M) {p d : Int} (hp : 0 ≤ p ∧ p ≤ M 11 0) (hd : 0 ≤ d ∧ d < 1000) : ∃ x, X_X4_placesBehind_36 p d M = some (x, M) ∧ BS x (pb_ M p d) := by
  have rs := I.rs
  have e1 : XL_X4_placesBehind_36_1 XB_X4_placesBehind_36_5 1000 p d 0 (-1) M = _ := c_pb1 _ I 999 hp hd (by decide)
  have e2 : ∀ v, XL_X4_placesBehind_36_1 XB_X4_placesBehind_36_5 999 p d v (-1 + 1) M = _ := fun v => c_pb1 _ I 998 hp hd (by decide)
  have e3 : ∀ v, XL_X4_placesBehind_36_1 XB_X4_placesBehind_36_5 998 p d v (-1 + 1 + 1) M = _ := fun v => c_pb1 _ I 997 hp hd (by decide)
  have b1 := bs_if BS.z (p := p) (m := -1) (r := mv_ M p (-1) d) (fun h => by have := mv_in (M := M) (Or.inl rfl) hp h; omega)
  have b2 := bs_if b1 (p := p) (m := -1 + 1) (r := mv_ M p (-1 + 1) d) (fun h => by have := mv_in (M := M) (m := -1 + 1) (Or.inr (Or.inl rfl)) hp h; omega)
  have b3 := bs_if b2 (p := p) (m := -1 + 1 + 1) (r := mv_ M p (-1 + 1 + 1) d) (fun h => by have := mv_in (M := M) (m := -1 + 1 + 1) (Or.inr (Or.inr rfl)) hp h; omega)
  refine ⟨_, ?_, b3.c fun k _ => ?_⟩
  · rw [X_X4_placesBehind_36, XB_X4_placesBehind_36_e, e1, e2, e3, XL_X4_placesBehind_36_1, XB_X4_placesBehind_36_1, if_pos (by decide), XB_X4_placesBehind_36_5]
  · unfold pb_
    constructor
    · rintro (((h | h) | h) | h)
      · exact h.elim
      · exact ⟨-1, Or.inl rfl, h.1, h.2⟩
      · exact ⟨0, Or.inr (Or.inl rfl), h.1, h.2⟩
      · exact ⟨1, Or.inr (Or.inr rfl), h.1, h.2⟩
    · rintro ⟨m, rfl | rfl | rfl, h1, h2⟩
      · exact Or.inl (Or.inl (Or.inr ⟨h1, h2⟩))
      · exact Or.inl (Or.inr ⟨h1, h2⟩)
      · exact Or.inr ⟨h1, h2⟩
/-- what a day does to a set of places -/
noncomputable def sp_ (M : am_M) (S : Nat → Prop) (d : Int) (q : Nat) : Prop := ∃ p : Nat, S p ∧ (p : Int) ≤ M 11 0 ∧ pb_ M p d q
theorem lp_spread (k : Int → am_M → am_Rs) {M : am_M} (I : Ic M) {x d : Int} {S : Nat → Prop} (hx : BS x S) (hd : 0 ≤ d ∧ d < 1000) : ∀ (e n i : Nat) (v : Int) (T : Nat → Prop), BS v T → (i : Int) + e = M 11 0 + 1 → e < n → ∃ w, XL_X4_spread_36_1 k n x d v i M = k w M ∧ BS w (fun q => T q ∨ ∃ p : Nat, i ≤ p ∧ S p ∧ (p : Int) ≤ M 11 0 ∧ pb_ M p d q) := by
  intro e
  induction e with
  | zero =>
    intro n i v T hv hi hn
    have rs := I.rs
    obtain ⟨n, rfl⟩ : ∃ m, n = m + 1 := ⟨n - 1, by omega⟩
    refine ⟨v, ?_, hv.c fun q _ => ⟨Or.inl, fun h => h.elim id fun ⟨p, h1, h2, h3, h4⟩ => by omega⟩⟩
    rw [XL_X4_spread_36_1, XB_X4_spread_36_1, wI_of (x := (i : Int)) (by omega) (by omega), wI_of (x := M 11 0) (by omega) (by omega), if_pos (by omega)]
  | succ e ih =>
    intro n i v T hv hi hn
    have rs := I.rs
    obtain ⟨n, rfl⟩ : ∃ m, n = m + 1 := ⟨n - 1, by omega⟩
    have st : XL_X4_spread_36_1 k (n + 1) x d v i M = if wI (b_and_ (b_shr_ x i) 1) = 0 then XL_X4_spread_36_1 k n x d v ((i + 1 : Nat) : Int) M else (X_X4_placesBehind_36 i d M).bind fun z1 => XL_X4_spread_36_1 k n x d (b_or_ v z1.1) ((i + 1 : Nat) : Int) z1.2 := by
      rw [XL_X4_spread_36_1, XB_X4_spread_36_1, wI_of (x := (i : Int)) (by omega) (by omega), wI_of (x := M 11 0) (by omega) (by omega), if_neg (by omega)]; rfl
    rw [st]
    have hg := hx.get (k := i) (by omega)
    by_cases c : S i
    · rw [if_neg (by rw [hg.1 c]; decide)]
      obtain ⟨y, y1, y2⟩ := sp_pb I (p := (i : Int)) (by omega) hd
      obtain ⟨w, w1, w2⟩ := ih n (i + 1) (b_or_ v y) _ (hv.or y2) (by push_cast; omega) (by omega)
      refine ⟨w, by rw [y1, ob]; exact w1, w2.c fun q _ => ?_⟩
      constructor
      · rintro ((h | h) | ⟨p, h1, h2, h3, h4⟩)
        · exact Or.inl h
        · exact Or.inr ⟨i, Nat.le_refl _, c, by omega, h⟩
        · exact Or.inr ⟨p, by omega, h2, h3, h4⟩
      · rintro (h | ⟨p, h1, h2, h3, h4⟩)
        · exact Or.inl (Or.inl h)
        · rcases Nat.lt_or_eq_of_le h1 with h5 | h5
          · exact Or.inr ⟨p, h5, h2, h3, h4⟩
          · subst h5; exact Or.inl (Or.inr h4)
    · rw [if_pos (hg.2 c)]
      obtain ⟨w, w1, w2⟩ := ih n (i + 1) v T hv (by push_cast; omega) (by omega)
      refine ⟨w, w1, w2.c fun q _ => ?_⟩
      constructor
      · rintro (h | ⟨p, h1, h2, h3, h4⟩)
        · exact Or.inl h
        · exact Or.inr ⟨p, by omega, h2, h3, h4⟩
      · rintro (h | ⟨p, h1, h2, h3, h4⟩)
        · exact Or.inl h
        · rcases Nat.lt_or_eq_of_le h1 with h5 | h5
          · exact Or.inr ⟨p, h5, h2, h3, h4⟩
          · subst h5; exact absurd h2 c
theorem sp_spread {M : am_M} (I : Ic M) {x d : Int} {S : Nat → Prop} (hx : BS x S) (hd : 0 ≤ d ∧ d < 1000) : ∃ w, X_X4_spread_36 x d M = some (w, M) ∧ BS w (sp_ M S d) := by
  have rs := I.rs
  obtain ⟨w, w1, w2⟩ := lp_spread XB_X4_spread_36_5 I hx hd (M 11 0 + 1).toNat 1000 0 0 _ BS.z (by omega) (by omega)
  rw [show ((0 : Nat) : Int) = 0 from rfl] at w1
  refine ⟨w, by rw [X_X4_spread_36, XB_X4_spread_36_e, w1]; rfl, w2.c fun q _ => ?_⟩
  unfold sp_
  constructor
  · rintro (h | ⟨p, h1, h2⟩)
    · exact h.elim
    · exact ⟨p, h2⟩
  · rintro ⟨p, h2⟩
    exact Or.inr ⟨p, Nat.zero_le _, h2⟩
theorem lp_reachC (k : Int → am_M → am_Rs) {M : am_M} (I : Ic M) (v : Nat) (hv : v ≤ 20) : ∀ (e n i : Nat) (x : Int), BS x (rc_ M i) → i + e = v → e < n → ∃ w, XL_X4_reachIn_36_1 k n v x i M = k w M ∧ BS w (rc_ M v) := by
  intro e
  induction e with
  | zero =>
    intro n i x hx hi hn
    obtain ⟨n, rfl⟩ : ∃ m, n = m + 1 := ⟨n - 1, by omega⟩
    refine ⟨x, ?_, by rw [← hi]; exact hx⟩
    rw [XL_X4_reachIn_36_1, XB_X4_reachIn_36_1, wI_of (x := (i : Int)) (by omega) (by omega), wI_of (x := (v : Int)) (by omega) (by omega), if_neg (by omega)]
  | succ e ih =>
    intro n i x hx hi hn
    have r0 := I.r0
    obtain ⟨n, rfl⟩ : ∃ m, n = m + 1 := ⟨n - 1, by omega⟩
    obtain ⟨y, y1, y2⟩ := sp_spread I hx (d := M 14 0 + i) (by omega)
    obtain ⟨w, w1, w2⟩ := ih n (i + 1) y y2 (by omega) (by omega)
    refine ⟨w, ?_, w2⟩
    rw [XL_X4_reachIn_36_1, XB_X4_reachIn_36_1, wI_of (x := (i : Int)) (by omega) (by omega), wI_of (x := (v : Int)) (by omega) (by omega), if_pos (by omega), y1, ob]
    exact w1
theorem sp_reachC {M : am_M} (I : Ic M) (v : Nat) (hv : v ≤ 20) : ∃ w, X_X4_reachIn_36 v M = some (w, M) ∧ BS w (rc_ M v) := by
  have r1 := I.r1
  have rs := I.rs
  obtain ⟨w, w1, w2⟩ := lp_reachC XB_X4_reachIn_36_3 I v hv v 1000 0 (b_shl_ 1 (M 14 1)) (BS.one (by omega)) (by omega) (by omega)
  rw [show ((0 : Nat) : Int) = 0 from rfl] at w1
  exact ⟨w, by rw [X_X4_reachIn_36, XB_X4_reachIn_36_e, w1]; rfl, w2⟩
/-! the same of the reference -/
theorem m_has {x : Int} {S : Nat → Prop} (hx : BS x S) {k : Nat} (hk : k < 20) (M : am_M) : (S k → X_X9_has x k M = some (1, M)) ∧ (¬ S k → X_X9_has x k M = some (0, M)) := by
  have hg := hx.get hk
  constructor
  · intro h; rw [X_X9_has, if_pos (hg.1 h)]
  · intro h; rw [X_X9_has, if_neg (by rw [hg.2 h]; decide)]
theorem m_rp1 (k : Int → Int → Int → Int → Int → am_M → am_Rs) {M : am_M} (I : Ic M) (n : Nat) {a x d v m : Int} {p : Nat} {S : Nat → Prop} (hx : BS x S) (hp : (p : Int) ≤ M 11 0) (hd : 0 ≤ M 14 0 + d ∧ M 14 0 + d < 1000) (hm : -1 ≤ m ∧ m ≤ 1) : (S p → XL_X9_reachIn_53_5 k (n + 1) a x d v p m M = XL_X9_reachIn_53_5 k n a x d (b_or_ v (if mv_ M p m (M 14 0 + d) = -1 then 0 else b_shl_ 1 (p + m))) p (m + 1) M) ∧ (¬ S p → XL_X9_reachIn_53_5 k (n + 1) a x d v p m M = XL_X9_reachIn_53_5 k n a x d (b_or_ v 0) p (m + 1) M) := by
  have rs := I.rs
  have hg := m_has hx (k := p) (by omega) M
  constructor
  · intro h
    rw [XL_X9_reachIn_53_5, XB_X9_reachIn_53_5, wI_of (x := m) (by omega) (by omega), if_pos (by omega), hg.1 h, ob]
    dsimp +instances only
    rw [if_neg (by decide), I.d0, km_can I (by omega) hm hd, ob]
    dsimp +instances only
    by_cases c : mv_ M p m (M 14 0 + d) = -1
    · rw [if_pos (show wI (b2 (mv_ M p m (M 14 0 + d) ≠ -1)) = 0 by rw [b2_f (fun q => q c)]; rfl), if_pos c]
    · rw [if_neg (show ¬ wI (b2 (mv_ M p m (M 14 0 + d) ≠ -1)) = 0 by rw [b2_t c]; decide), if_neg c]
  · intro h
    rw [XL_X9_reachIn_53_5, XB_X9_reachIn_53_5, wI_of (x := m) (by omega) (by omega), if_pos (by omega), hg.2 h, ob]
    dsimp +instances only
    rw [if_pos wI_0]
theorem bs_if2 {x : Int} {S : Nat → Prop} (h : BS x S) {p m r : Int} (hp : r ≠ -1 → 0 ≤ p + m ∧ p + m < 20) : BS (b_or_ x (if r = -1 then 0 else b_shl_ 1 (p + m))) (fun k => S k ∨ (r ≠ -1 ∧ (k : Int) = p + m)) := by
  by_cases c : r = -1
  · rw [if_pos c]; exact (h.or BS.z).c fun k _ => ⟨fun q => q.elim Or.inl False.elim, fun q => q.elim Or.inl (fun w => absurd c w.1)⟩
  · rw [if_neg c]; exact (h.or (BS.one (hp c))).c fun k _ => ⟨fun q => q.elim Or.inl (fun w => Or.inr ⟨c, w⟩), fun q => q.elim Or.inl (fun w => Or.inr w.2)⟩
theorem m_rp (k : Int → Int → Int → Int → Int → am_M → am_Rs) {M : am_M} (I : Ic M) {a x d v : Int} {p : Nat} {S T : Nat → Prop} (hx : BS x S) (hv : BS v T) (hp : (p : Int) ≤ M 11 0) (hd : 0 ≤ M 14 0 + d ∧ M 14 0 + d < 1000) : ∃ w, XL_X9_reachIn_53_5 k 1000 a x d v p (-1) M = k a x d w p M ∧ BS w (fun q => T q ∨ (S p ∧ pb_ M p (M 14 0 + d) q)) := by
  have rs := I.rs
  have hp2 : 0 ≤ (p : Int) ∧ (p : Int) ≤ M 11 0 := by omega
  have fin : ∀ w, XL_X9_reachIn_53_5 k 997 a x d w p (-1 + 1 + 1 + 1) M = k a x d w p M := fun w => by
    rw [XL_X9_reachIn_53_5, XB_X9_reachIn_53_5, if_neg (by decide)]
  have s1 := fun v => m_rp1 k I 999 (a := a) (d := d) (v := v) (m := -1) hx hp hd (by decide)
  have s2 := fun v => m_rp1 k I 998 (a := a) (d := d) (v := v) (m := -1 + 1) hx hp hd (by decide)
  have s3 := fun v => m_rp1 k I 997 (a := a) (d := d) (v := v) (m := -1 + 1 + 1) hx hp hd (by decide)
  by_cases c : S p
  · have b1 := bs_if2 hv (p := p) (m := -1) (r := mv_ M p (-1) (M 14 0 + d)) (fun h => by have := mv_in (M := M) (Or.inl rfl) hp2 h; omega)
    have b2 := bs_if2 b1 (p := p) (m := -1 + 1) (r := mv_ M p (-1 + 1) (M 14 0 + d)) (fun h => by have := mv_in (M := M) (m := -1 + 1) (Or.inr (Or.inl rfl)) hp2 h; omega)
    have b3 := bs_if2 b2 (p := p) (m := -1 + 1 + 1) (r := mv_ M p (-1 + 1 + 1) (M 14 0 + d)) (fun h => by have := mv_in (M := M) (m := -1 + 1 + 1) (Or.inr (Or.inr rfl)) hp2 h; omega)
    refine ⟨_, (((s1 _).1 c).trans (((s2 _).1 c).trans ((s3 _).1 c))).trans (fin _), b3.c fun q _ => ?_⟩
    unfold pb_
    constructor
    · rintro (((h | h) | h) | h)
      · exact Or.inl h
      · exact Or.inr ⟨c, -1, Or.inl rfl, h.1, h.2⟩
      · exact Or.inr ⟨c, 0, Or.inr (Or.inl rfl), h.1, h.2⟩
      · exact Or.inr ⟨c, 1, Or.inr (Or.inr rfl), h.1, h.2⟩
    · rintro (h | ⟨-, m, rfl | rfl | rfl, h1, h2⟩)
      · exact Or.inl (Or.inl (Or.inl h))
      · exact Or.inl (Or.inl (Or.inr ⟨h1, h2⟩))
      · exact Or.inl (Or.inr ⟨h1, h2⟩)
      · exact Or.inr ⟨h1, h2⟩
  · refine ⟨_, (((s1 _).2 c).trans (((s2 _).2 c).trans ((s3 _).2 c))).trans (fin _), (((hv.or BS.z).or BS.z).or BS.z).c fun q _ => ?_⟩
    constructor
    · rintro (((h | h) | h) | h)
      · exact Or.inl h
      · exact h.elim
      · exact h.elim
      · exact h.elim
    · rintro (h | h)
      · exact Or.inl (Or.inl (Or.inl h))
      · exact absurd h.1 c
theorem lp_rM3 (k : Int → Int → Int → am_M → am_Rs) {M : am_M} (I : Ic M) {a x d : Int} {S : Nat → Prop} (hx : BS x S) (hd : 0 ≤ M 14 0 + d ∧ M 14 0 + d < 1000) : ∀ (e n i : Nat) (v : Int) (T : Nat → Prop), BS v T → (i : Int) + e = M 11 0 + 1 → e < n → ∃ w, XL_X9_reachIn_53_3 k n a x d v i M = k a d w M ∧ BS w (fun q => T q ∨ ∃ p : Nat, i ≤ p ∧ S p ∧ (p : Int) ≤ M 11 0 ∧ pb_ M p (M 14 0 + d) q) := by
  intro e
  induction e with
  | zero =>
    intro n i v T hv hi hn
    have rs := I.rs
    obtain ⟨n, rfl⟩ : ∃ m, n = m + 1 := ⟨n - 1, by omega⟩
    refine ⟨v, ?_, hv.c fun q _ => ⟨Or.inl, fun h => h.elim id fun ⟨p, h1, h2, h3, h4⟩ => by omega⟩⟩
    rw [XL_X9_reachIn_53_3, XB_X9_reachIn_53_3, I.es, wI_of (x := (i : Int)) (by omega) (by omega), wI_of (x := M 11 0) (by omega) (by omega), if_pos (by omega)]
  | succ e ih =>
    intro n i v T hv hi hn
    have rs := I.rs
    obtain ⟨n, rfl⟩ : ∃ m, n = m + 1 := ⟨n - 1, by omega⟩
    obtain ⟨y, y1, y2⟩ := m_rp (XB_X9_reachIn_53_11 (XL_X9_reachIn_53_3 k n)) I (a := a) (d := d) (p := i) hx hv (by omega) hd
    obtain ⟨w, w1, w2⟩ := ih n (i + 1) y _ y2 (by push_cast; omega) (by omega)
    refine ⟨w, ?_, w2.c fun q _ => ?_⟩
    · rw [XL_X9_reachIn_53_3, XB_X9_reachIn_53_3, I.es, wI_of (x := (i : Int)) (by omega) (by omega), wI_of (x := M 11 0) (by omega) (by omega), if_neg (by omega), y1, XB_X9_reachIn_53_11]
      exact w1
    · constructor
      · rintro ((h | h) | ⟨p, h1, h2, h3, h4⟩)
        · exact Or.inl h
        · exact Or.inr ⟨i, Nat.le_refl _, h.1, by omega, h.2⟩
        · exact Or.inr ⟨p, by omega, h2, h3, h4⟩
      · rintro (h | ⟨p, h1, h2, h3, h4⟩)
        · exact Or.inl (Or.inl h)
        · rcases Nat.lt_or_eq_of_le h1 with h5 | h5
          · exact Or.inr ⟨p, h5, h2, h3, h4⟩
          · subst h5; exact Or.inl (Or.inr ⟨h2, h4⟩)
theorem lp_reachM (k : Int → am_M → am_Rs) {M : am_M} (I : Ic M) (v : Nat) (hv : v ≤ 20) : ∀ (e n i : Nat) (x : Int), BS x (rc_ M i) → i + e = v → e < n → ∃ w, XL_X9_reachIn_53_1 k n v x i M = k w M ∧ BS w (rc_ M v) := by
  intro e
  induction e with
  | zero =>
    intro n i x hx hi hn
    obtain ⟨n, rfl⟩ : ∃ m, n = m + 1 := ⟨n - 1, by omega⟩
    refine ⟨x, ?_, by rw [← hi]; exact hx⟩
    rw [XL_X9_reachIn_53_1, XB_X9_reachIn_53_1, wI_of (x := (i : Int)) (by omega) (by omega), wI_of (x := (v : Int)) (by omega) (by omega), if_neg (by omega)]
  | succ e ih =>
    intro n i x hx hi hn
    have r0 := I.r0
    have rs := I.rs
    obtain ⟨n, rfl⟩ : ∃ m, n = m + 1 := ⟨n - 1, by omega⟩
    obtain ⟨y, y1, y2⟩ := lp_rM3 (XB_X9_reachIn_53_12 (XL_X9_reachIn_53_1 k n)) I (a := (v : Int)) (d := (i : Int)) hx (by omega) (M 11 0 + 1).toNat 1000 0 0 _ BS.z (by omega) (by omega)
    obtain ⟨w, w1, w2⟩ := ih n (i + 1) y (y2.c fun q _ => by
      constructor
      · rintro (h | ⟨p, -, h2, h3, h4⟩)
        · exact h.elim
        · exact ⟨p, h2, h3, h4⟩
      · rintro ⟨p, h2, h3, h4⟩
        exact Or.inr ⟨p, Nat.zero_le _, h2, h3, h4⟩) (by omega) (by omega)
    refine ⟨w, ?_, w2⟩
    rw [show ((0 : Nat) : Int) = 0 from rfl] at y1
    rw [XL_X9_reachIn_53_1, XB_X9_reachIn_53_1, wI_of (x := (i : Int)) (by omega) (by omega), wI_of (x := (v : Int)) (by omega) (by omega), if_pos (by omega), y1, XB_X9_reachIn_53_12]
    exact w1
theorem sp_reachM {M : am_M} (I : Ic M) (v : Nat) (hv : v ≤ 20) : ∃ w, X_X9_reachIn_53 v M = some (w, M) ∧ BS w (rc_ M v) := by
  have r1 := I.r1
  have rs := I.rs
  obtain ⟨w, w1, w2⟩ := lp_reachM XB_X9_reachIn_53_13 I v hv v 1000 0 (b_shl_ 1 (M 14 1)) (BS.one (by omega)) (by omega) (by omega)
  rw [show ((0 : Nat) : Int) = 0 from rfl] at w1
  exact ⟨w, by rw [X_X9_reachIn_53, XB_X9_reachIn_53_e, I.d1, w1]; rfl, w2⟩
theorem eq_reach {M : am_M} (I : Inv M) {n : Int} (hn : iR n) : Step (X_X8_reach_0 n) (X_X9_reach_53 n) M := gd_reach I hn fun h1 h2 => by
  obtain ⟨q, rfl⟩ := Int.eq_ofNat_of_zero_le h1.1
  have rs := I.rs
  obtain ⟨x, x1, x2⟩ := sp_reachC I.b.c q (by omega)
  obtain ⟨y, y1, y2⟩ := sp_reachM I.b.c q (by omega)
  refine st_same I (v := x) (w := y) ?_ ?_ (x2.w y2)
  · rw [X_X8_reach_0, sp_isPlan M hn, b2_t h1, ob]
    dsimp +instances only
    rw [if_neg (by decide), sp_hasNoLand I.g11, b2_f h2, ob]
    dsimp +instances only
    rw [if_pos wI_0, x1, ob]
  · rw [X_X9_reach_53, wI_R hn, sp_in M hn i0 i20, b2_t h1, ob]
    dsimp +instances only
    rw [if_neg (by decide), I.es, wI_of (x := M 11 0) (by omega) (by omega), if_neg h2, y1, ob]
