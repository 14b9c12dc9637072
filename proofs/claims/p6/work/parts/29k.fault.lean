/-! the whole reading, side by side -/
theorem lp_read {t z : Nat} {s : Nat → Int} (T : TX t z s) : ∀ (e n1 n2 n p : Nat) (C D : am_M), n + e = 13 → n ≤ 12 → e ≤ n1 → e < n2 → p ≤ z → CR t z s p n C → MR t z s (sk s z p) n D → (∀ j, j < n → D 62 (2 * j) = C 9 j ∧ D 62 (2 * j + 1) = C 10 j) → ∃ v C' D', XL_X5_read_7_1 XB_X5_read_7_4 XB_X5_read_7_11 n1 n C = some (v, C') ∧ XL_X9_faultOf_53_1 XB_X9_faultOf_53_6 n2 1 D = some (v, D') ∧ OUT C D v C' D' := by
  intro e
  have t2 := T.2.1
  induction e with
  | zero => intro n1 n2 n p C D h1 h2; omega
  | succ e ih =>
    intro n1 n2 n p C D hn hn2 h1 h2 hp hC hD hE
    obtain ⟨n1, rfl⟩ : ∃ m, n1 = m + 1 := ⟨n1 - 1, by omega⟩
    obtain ⟨n2, rfl⟩ : ∃ m, n2 = m + 1 := ⟨n2 - 1, by omega⟩
    have skr := sk_r (s := s) hp
    have sC := c_skip T hC hp
    obtain ⟨q, hq⟩ : ∃ q, q = sk s z p := ⟨_, rfl⟩
    rw [← hq] at skr sC hD
    have hC1 := hC.mv q
    obtain ⟨C1, eC1⟩ : ∃ C1, C1 = am_up C 7 6 (q : Int) := ⟨_, rfl⟩
    rw [← eC1] at sC hC1
    have fC1 : FC C C1 := by rw [eC1]; exact FC.up (Or.inl rfl)
    have e9 : C1 9 = C 9 := by rw [eC1]; exact up_a (by decide)
    have e10 : C1 10 = C 10 := by rw [eC1]; exact up_a (by decide)
    have hE1 : ∀ j, j < n → D 62 (2 * j) = C1 9 j ∧ D 62 (2 * j + 1) = C1 10 j := by rw [e9, e10]; exact hE
    have sr := sg_r T q
    have c0 : XL_X5_read_7_1 XB_X5_read_7_4 XB_X5_read_7_11 (n1 + 1) n C = if sg s z q = 98 then if n < 2 then (X_X5_readStrip_7 C1).bind fun z3 => if wI z3.1 = 0 then some (z3.2 7 6, z3.2) else XL_X5_read_7_1 XB_X5_read_7_4 XB_X5_read_7_11 n1 ((n + 1 : Nat) : Int) z3.2 else XB_X5_read_7_4 C1 else (X_X5_readStrip_7 C1).bind fun z3 => if wI z3.1 = 0 then some (z3.2 7 6, z3.2) else XL_X5_read_7_1 XB_X5_read_7_4 XB_X5_read_7_11 n1 ((n + 1 : Nat) : Int) z3.2 := by
      rw [XL_X5_read_7_1, XB_X5_read_7_1, wI_of (x := (n : Int)) (by omega) (by omega), if_neg (by omega), sC, ob]
      dsimp +instances only
      rw [c_sign T hC1 (by omega), ob]
      dsimp +instances only
      rw [wI_of (x := sg s z q) (by omega) (by omega), hC1.2.2.2.2.2.1, wI_of (x := (n : Int)) (by omega) (by omega), show (n : Int) + 1 = ((n + 1 : Nat) : Int) by omega]
      by_cases c2 : n < 2
      · rw [if_pos c2, if_pos (show (n : Int) < 2 by omega)]
      · rw [if_neg c2, if_neg (show ¬ (n : Int) < 2 by omega)]
    have bC1 : (∀ i, 0 ≤ C1 9 i ∧ C1 9 i ≤ 5) ∧ ∀ i, 0 ≤ C1 10 i ∧ C1 10 i ≤ 9 := ⟨hC1.2.2.2.2.2.2.1, hC1.2.2.2.2.2.2.2⟩
    have bad : (sK s z q = -1 ∨ n = 12) → ((X_X5_readStrip_7 C1).bind fun z3 => if wI z3.1 = 0 then some (z3.2 7 6, z3.2) else XL_X5_read_7_1 XB_X5_read_7_4 XB_X5_read_7_11 n1 ((n + 1 : Nat) : Int) z3.2) = some ((q : Int), C1) := fun hb => by
      rw [c_strip0 T hC1 (by omega) hn2 hb, ob]
      dsimp +instances only
      rw [if_pos wI_0, hC1.2.2.2.2.1]
    have mq : D 53 14 = (q : Int) := hD.2.2.1
    by_cases cz : q < z
    · have hsg : sg s z q = s q := sg_in cz
      have m0 : XL_X9_faultOf_53_1 XB_X9_faultOf_53_6 (n2 + 1) 1 D = if s q = 98 then XB_X9_faultOf_53_6 1 D else (X_X9_readsStrip_53 D).bind fun z2 => if wI z2.1 = 0 then XL_X9_faultOf_53_1 XB_X9_faultOf_53_6 n2 z2.1 z2.2 else (X_X9_skip_53 z2.2).bind fun z3 => XL_X9_faultOf_53_1 XB_X9_faultOf_53_6 n2 z2.1 z3.2 := by
        rw [XL_X9_faultOf_53_1, XB_X9_faultOf_53_1, if_neg (by decide), mq, hD.2.2.2.1, wI_of (x := (q : Int)) (by omega) (by omega), wI_of (x := (z : Int)) (by omega) (by omega), if_pos (by omega), m_here T hD cz, ob]
        dsimp +instances only
        rw [wI_of (x := s q) (by omega) (by omega)]
      have stop : ∀ N : am_M, XL_X9_faultOf_53_1 XB_X9_faultOf_53_6 n2 0 N = some (N 53 14, N) := fun N => by
        obtain ⟨n3, rfl⟩ : ∃ m, n2 = m + 1 := ⟨n2 - 1, by omega⟩
        rw [XL_X9_faultOf_53_1, XB_X9_faultOf_53_1, if_pos wI_0, XB_X9_faultOf_53_6, if_pos wI_0]
      by_cases cb : s q = 98
      · have kb : sK s z q = -1 := by unfold sK; rw [hsg, cb]; rfl
        rw [if_pos (by rw [hsg]; exact cb)] at c0
        rw [if_pos cb] at m0
        by_cases c2 : n < 2
        · rw [if_pos c2, bad (Or.inl kb)] at c0
          refine ⟨_, _, _, c0, m0.trans (m_out T hD cz (q := q) (n2 := n) ?_ hD), OUT.f fC1 (FD.rf D) bC1 (by omega)⟩
          rw [X_X9_readsEnd_53, XB_X9_readsEnd_53_e, hD.2.2.2.2, wI_of (x := (n : Int)) (by omega) (by omega), if_pos (by omega)]
        · rw [if_neg c2] at c0
          obtain ⟨v, C', D', a1, a2, a3⟩ := sim_end T hC1 hD cz (by omega) hE1
          exact ⟨v, C', D', c0.trans a1, m0.trans a2, OUT.tr fC1 (FD.rf D) a3⟩
      · rw [if_neg (by rw [hsg]; exact cb)] at c0
        rw [if_neg cb] at m0
        by_cases ck : sK s z q = -1 ∨ n = 12
        · rw [bad ck] at c0
          rw [m_strip0 T hD cz hn2 ck, ob] at m0
          dsimp +instances only at m0
          rw [if_pos wI_0, stop, mq] at m0
          exact ⟨_, _, _, c0, m0, OUT.f fC1 (FD.rf D) bC1 (by omega)⟩
        · have ck1 : sK s z q ≠ -1 := fun h => ck (Or.inl h)
          have cn : n < 12 := by
            have : n ≠ 12 := fun h => ck (Or.inr h)
            omega
          have kr := kdc_r (sg s z q)
          have sC1 := c_strip1 T hC1 (by omega) cn ck1
          have sD1 := m_strip1 T hD cz cn ck1
          by_cases g : FG s z (q + 1) 0 9
          · have g2 := g
            unfold FG at g2
            have hz2 : q + 1 < z := sg_lt (s := s) (by omega)
            have hk : 0 ≤ sK s z q ∧ sK s z q ≤ 5 := by unfold sK at ck1 ⊢; omega
            have hC2 : CR t z s (q + 2) (n + 1) (cAdd C1 q n (sK s z q) (sg s z (q + 1) - 48)) := (hC1.mv (q + 2)).add hk (by omega)
            have hD2 : MR t z s (q + 2) (n + 1) (mAdd D q n (sK s z q) (sg s z (q + 1) - 48)) := (((hD.mv (q + 2)).u (Or.inl rfl)).u (Or.inl rfl)).n (n + 1)
            have hS := m_skip T hD2 (by omega)
            have hD3 := hD2.mv (sk s z (q + 2))
            rw [sC1.2.1 g, ob] at c0
            dsimp +instances only at c0
            rw [if_neg (by decide)] at c0
            rw [sD1.1 g, ob] at m0
            dsimp +instances only at m0
            rw [if_neg (by decide), hS, ob] at m0
            obtain ⟨v, C', D', a1, a2, a3⟩ := ih n1 n2 (n + 1) (q + 2) _ _ (by omega) (by omega) (by omega) (by omega) (by omega) hC2 hD3 (fun j hj => by
              rw [up_a (a' := 62) (by decide)]
              unfold cAdd mAdd
              rw [up_a (a' := 62) (a := 53) (by decide), up_a (a' := 9) (a := 8) (by decide), up_a (a' := 9) (a := 10) (by decide), up_a (a' := 10) (a := 8) (by decide)]
              by_cases c : j = n
              · subst c
                rw [up_s, up_j (by omega), up_s, up_s, up_s]
                exact ⟨rfl, rfl⟩
              · rw [up_j (by omega), up_j (by omega), up_j (by omega), up_j (by omega), up_j (by omega), up_j (by omega), up_a (a' := 10) (a := 9) (by decide), up_a (a' := 62) (a := 53) (by decide), up_a (a' := 9) (a := 7) (by decide), up_a (a' := 10) (a := 7) (by decide)]
                exact hE1 j (by omega))
            refine ⟨v, C', D', c0.trans a1, m0.trans a2, OUT.tr (fC1.tr ?_) ?_ a3⟩
            · unfold cAdd
              exact (((FC.up (Or.inl rfl)).tr (FC.up (Or.inr (Or.inr (Or.inl rfl))))).tr (FC.up (Or.inr (Or.inr (Or.inr rfl))))).tr (FC.up (Or.inr (Or.inl rfl)))
            · unfold mAdd
              exact ((((FD.u53 (by decide)).tr (FD.u (Or.inl rfl))).tr (FD.u (Or.inl rfl))).tr (FD.u53 (by decide))).tr (FD.u53 (by decide))
          · have hC2 := hC1.mv (q + 1)
            have hD2 := hD.mv (q + 1)
            rw [sC1.2.2 g, ob] at c0
            dsimp +instances only at c0
            rw [if_pos wI_0, hC2.2.2.2.2.1] at c0
            rw [sD1.2 g, ob] at m0
            dsimp +instances only at m0
            rw [if_pos wI_0, stop, hD2.2.2.1] at m0
            exact ⟨_, _, _, c0, m0, OUT.f (fC1.tr (FC.up (Or.inl rfl))) (FD.u53 (by decide)) ⟨hC2.2.2.2.2.2.2.1, hC2.2.2.2.2.2.2.2⟩ (by omega)⟩
    · have sz : sg s z q = 0 := sg_z (by omega)
      rw [if_neg (by rw [sz]; decide), bad (Or.inl (by unfold sK; rw [sz]; rfl))] at c0
      refine ⟨_, _, D, c0, ?_, OUT.f fC1 (FD.rf D) bC1 (by omega)⟩
      rw [XL_X9_faultOf_53_1, XB_X9_faultOf_53_1, if_neg (by decide), mq, hD.2.2.2.1, wI_of (x := (q : Int)) (by omega) (by omega), wI_of (x := (z : Int)) (by omega) (by omega), if_neg (by omega), XB_X9_faultOf_53_6, if_neg (by decide), mq, hD.2.2.2.1, wI_of (x := (q : Int)) (by omega) (by omega), wI_of (x := (z : Int)) (by omega) (by omega), if_neg (by omega)]
/-- reading text t: the class at M, the model at any N whose texts are M's -/
theorem sim_read {M N : am_M} (I : Ib M) {t : Nat} (ht : t < 4) (h0 : 0 ≤ M 5 t) (hN : N 59 = M 59 ∧ N 60 = M 60) : ∃ v C' D', X_X5_read_7 t M = some (v, C') ∧ X_X9_faultOf_53 t N = some (v, D') ∧ OUT M N v C' D' := by
  have hb := I.2.2.1.2.1 t
  obtain ⟨z, hz⟩ := Int.eq_ofNat_of_zero_le h0
  have T : TX t z (fun j => M 6 (60 * t + j)) := ⟨ht, by omega, fun j => I.2.2.1.2.2.1 _⟩
  have hC : CR t z (fun j => M 6 (60 * t + j)) 0 0 (am_up (am_up (am_up M 7 5 (t : Int)) 7 6 0) 8 0 0) := by
    unfold CR Sh4
    have sh := I.sh4
    unfold Sh4 at sh
    refine ⟨sh, hz, fun j _ => rfl, rfl, rfl, rfl, I.2.2.2.1.2.2.2.2.2.2.2.2.1, I.2.2.2.1.2.2.2.2.2.2.2.2.2⟩
  have e5 : N 59 t = (z : Int) := by rw [hN.1, I.2.2.1.1]; exact hz
  have hD : MR t z (fun j => M 6 (60 * t + j)) 0 0 (am_up (am_up (am_up (am_up N 53 13 (60 * (t : Int))) 53 14 0) 53 15 (z : Int)) 53 17 0) := by
    unfold MR
    refine ⟨fun j hj => ?_, ?_, rfl, rfl, rfl⟩
    · show N 60 (60 * t + j) = M 6 (60 * t + j)
      rw [hN.2]
      exact I.2.2.1.2.2.2 t j ht (by omega)
    · show 60 * (t : Int) = ((60 * t : Nat) : Int)
      omega
  have mS := m_skip T hD (Nat.zero_le _)
  obtain ⟨v, C', D', a1, a2, a3⟩ := lp_read T 13 1000 1000 0 0 _ _ (by omega) (by omega) (by omega) (by omega) (Nat.zero_le _) hC (hD.mv _) (fun j hj => by omega)
  refine ⟨v, C', D', ?_, ?_, OUT.tr ?_ ?_ a3⟩
  · rw [X_X5_read_7, XB_X5_read_7_e, X_X2_clear_8, ob]
    exact a1
  · rw [X_X9_faultOf_53, XB_X9_faultOf_53_e, wI_of (x := (t : Int)) (by omega) (by omega), if_pos (by omega), Int.toNat_natCast, up_a (a' := 59) (by decide), up_a (a' := 59) (by decide), e5, mS, ob]
    exact a2
  · exact ((FC.up (Or.inl rfl)).tr (FC.up (Or.inl rfl))).tr (FC.up (Or.inr (Or.inl rfl)))
  · exact ((((FD.u53 (by decide)).tr (FD.u53 (by decide))).tr (FD.u53 (by decide))).tr (FD.u53 (by decide))).tr (FD.u53 (by decide))
/-- both, one after the other -/
theorem sim_two {M : am_M} (I : Ib M) {t : Nat} (ht : t < 4) (h0 : 0 ≤ M 5 t) : ∃ v C' D', X_X5_read_7 t M = some (v, C') ∧ X_X9_faultOf_53 t C' = some (v, D') ∧ OUT M C' v C' D' := by
  obtain ⟨v, C', D', a1, a2, a3⟩ := sim_read I (N := M) ht h0 ⟨rfl, rfl⟩
  obtain ⟨v2, C2, D2, b1, b2', b3⟩ := sim_read I (N := C') ht h0 ⟨a3.1 59 (by decide) (by decide) (by decide) (by decide), a3.1 60 (by decide) (by decide) (by decide) (by decide)⟩
  rw [a1] at b1
  obtain ⟨rfl, rfl⟩ : v = v2 ∧ C' = C2 := by
    injection b1 with b1
    injection b1 with e1 e2
    exact ⟨e1, e2⟩
  exact ⟨v, C', D2, a1, b2', b3⟩
theorem inv_910 {M : am_M} (I : Inv M) {f g : Nat → Int} (h9 : ∀ i, 0 ≤ f i ∧ f i ≤ 5) (h10 : ∀ i, 0 ≤ g i ∧ g i ≤ 9) : Inv (am_row (am_row M 9 f) 10 g) := by
  have G := I.2.2.2.1
  exact ⟨I.1, I.2.1, I.2.2.1, ⟨G.1, G.2.1, G.2.2.1, G.2.2.2.1, G.2.2.2.2.1, G.2.2.2.2.2.1, G.2.2.2.2.2.2.1, G.2.2.2.2.2.2.2.1, h9, h10⟩, I.2.2.2.2⟩
theorem OUT.k {M C' D' : am_M} {v : Int} (o : OUT M C' v C' D') : Kp (am_row (am_row M 9 (C' 9)) 10 (C' 10)) D' := by
  obtain ⟨o1, o2, -, -, -⟩ := o
  refine ⟨fun a ha => ?_, fun j hj => ?_, fun j hj => ?_⟩
  · rw [o2.1 a (by omega) (by omega) (by omega)]
    by_cases c9 : a = 9
    · subst c9; rw [row_a (by decide), row_s]
    · by_cases c10 : a = 10
      · subst c10; rw [row_s]
      · rw [row_a c10, row_a c9, o1 a (by omega) (by omega) c9 c10]
  · rw [o2.2 j hj, o1 53 (by decide) (by decide) (by decide) (by decide)]; rfl
  · rw [o2.1 54 (by decide) (by decide) (by decide), o1 54 (by decide) (by decide) (by decide) (by decide)]; rfl
theorem eq_fault {M : am_M} (I : Inv M) {t : Int} (ht : iR t) : Step (X_X8_fault_0 t) (X_X9_fault_53 t) M := gd_fault I ht fun h1 h2 => by
  obtain ⟨t, rfl⟩ := Int.eq_ofNat_of_zero_le h1.1
  rw [Int.toNat_natCast] at h2
  have hb := I.2.2.1.2.1 t
  obtain ⟨v, C', D', a1, a2, a3⟩ := sim_two I.b (t := t) (by omega) h2
  refine ⟨v, v, C', D', ?_, ?_, rfl, Kp.inv (inv_910 I a3.2.2.1.1 a3.2.2.1.2) a3.k⟩
  · rw [X_X8_fault_0, sp_isNumber_4 I.sh4 ht, b2_t h1, ob]
    dsimp +instances only
    rw [if_neg (by decide), sp_isThere_4 I.sh4 h1, Int.toNat_natCast, b2_t h2, ob]
    dsimp +instances only
    rw [if_neg (by decide), a1, ob]
  · have e59 : C' 59 t = M 5 t := by rw [a3.1 59 (by decide) (by decide) (by decide) (by decide), I.2.2.1.1]
    rw [X_X9_fault_53, sp_isText _ ht, b2_t h1, ob]
    dsimp +instances only
    rw [if_neg (by decide), wI_of (x := (t : Int)) (by omega) (by omega), if_pos (by omega), Int.toNat_natCast, e59, wI_of (x := M 5 t) (by omega) (by omega), if_neg (by omega), a2, ob]
