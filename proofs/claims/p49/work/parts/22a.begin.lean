section
/-! The law from its entry. -/
theorem lw_inst : ∀ q ∈ vwCl, Cond.instantiable q.1 q.2.2 ∈ lw_tbl := by decide +kernel
theorem lw_ai : Cond.arrayClass .int ∈ lw_tbl := (List.mem_filter.mp am_ac_int).1
theorem lw_al : Cond.arrayClass .long ∈ lw_tbl := (List.mem_filter.mp am_ac_long).1
theorem lw_ao : Cond.arrayOver (.object "PaceBorder$Days") ∈ lw_tbl := by decide +kernel
theorem lw_nst : ∀ q ∈ am_nst, Cond.methodLinkNest q.1 q.2.1 q.2.2.1 q.2.2.2 ∈ lw_tbl := by decide +kernel
theorem am_l_cc : am_cc 278 = code := by rfl
theorem am_l_rt : am_rt 278 = some .boolean := by decide +kernel
theorem am_l_ml : am_ml 278 = 4 := by decide +kernel
theorem am_l_fr : am_fr 278 = 10 := by decide +kernel
theorem am_l_lc : am_lc 278 = 217 := by decide +kernel
theorem am_l_y : am_y 278 = ⟨"PaceBorderLaw", "law", "([I)Z"⟩ := by decide +kernel
theorem lw_known {s : State} {args : Array Value} (hts : ∀ w ∈ lw_tbl, w.before args s = true) : ∃ (D : va_G) (ca : am_Ca), am_Kn D ca s := by
  have hk : ∀ ci : Nat, ∃ z : ClassId × (Nat → Nat), ∀ q, vwCl[ci]? = some q → u_Kn s q.1 q.2.1 q.2.2 z.1 z.2 := by
    intro ci
    cases h : vwCl[ci]? with
    | none => exact ⟨(0, fun _ => 0), fun q hq => by cases hq⟩
    | some q =>
      obtain ⟨C, T, n⟩ := q
      obtain ⟨cC, iS, hu⟩ := u_known (C := C) (T := T) (N := n) (n := n) hts (fun w hw => (List.mem_filter.mp ((am_cls ci _ h).1 w hw)).1) (hts _ (lw_inst _ (List.mem_of_getElem? h)))
      exact ⟨(cC, iS), fun q hq => by cases hq; exact hu⟩
  obtain ⟨f, hf⟩ := Classical.axiomOfChoice hk
  obtain ⟨c1, k1, p1, a1, a2, a3⟩ := Cond.arrayClass_spec (hts _ lw_ai)
  obtain ⟨c2, k2, p2, b1, b2, b3⟩ := Cond.arrayClass_spec (hts _ lw_al)
  obtain ⟨p3, c3, k3, d1, -, d2, d3, d4⟩ := Cond.arrayOver_spec (hts _ lw_ao)
  refine ⟨(fun c => (f c).1, fun c => (f c).2), (c1, c2, c3), ⟨fun c q hq => hf c q hq, fun k q hq => ?_⟩, fun q hq => va_Nw.of rfl (hts _ (lw_nst q hq)), va_AO.of (hts _ lw_ao)⟩
  match k, hq with
  | 0, hq => cases hq; exact ⟨fun N z => ⟨fun k h => (by cases h), k1, a2, p1, a3⟩, a1⟩
  | 1, hq => cases hq; exact ⟨fun N z => ⟨fun k h => (by cases h), k2, b2, p2, b3⟩, b1⟩
  | 2, hq => cases hq; exact ⟨fun N z => ⟨fun k h => (by cases h), k3, d2, p3, d3⟩, k3, p3, d2, d3, d1, d4⟩
  | k + 3, hq => simp [am_ty] at hq
theorem lw_begin {p : Program} {e : Env} {s : State} {m : MethodId} {below : List Frame} {meth : Method} {c : Code} (l : Launch) {b L : Nat} {xs : Nat → Int32} {Q : State → Prop}
    (hx : p.tables.exec = Jvm.exec) (hb : c.code = code) (hr : meth.sig.returnType = some .boolean) (hml : c.maxLocals = 4) (hown : s.vm.findClass "PaceBorderLaw" = some m.cls) (hts : ∀ w ∈ lw_tbl, w.before #[Value.ref b] s = true) (hX : va_X b L xs s s.heap) (hbl : b < s.heap.size) (hlocks : meth.locks = false) (hnm : meth.name = "law") (hL : L < 2 ^ 31) {M' : am_M}
    (hgo : LwB L (fun j => (xs j).toInt) 1 0 M0 M') (hQ : ∀ (pc : Nat) (H : Heap) (ls : Array Slot), decode code pc = .ok (.ireturn, 1) → W p l e room_1 s m #[Value.ref b] below meth c H [] 600000 7302250 Q (F0 m pc ls [.int 1])) :
    W p l e room_1 s m #[Value.ref b] below meth c s.heap [] 0 0 Q (entryFrame m ([Value.ref b] : List Value).toArray 4) := by
  obtain ⟨D, ca, hK⟩ := lw_known hts
  have hl := lv_entry ([.ref b]) (n := 4) (Nat.le_of_ble_eq_true rfl)
  rw [lg_entry_eq]
  generalize (lg_sl ([.ref b]) ++ List.replicate (4 - (lg_sl ([.ref b])).length) Slot.unset).toArray = ls at hl ⊢
  have hl : lv_has ls 4 [(0, .ref b)] := hl
  have hC : am_Cx (some (L, fun j => (xs j).toInt)) 278 p room_1 s m #[Value.ref b] meth c D ca s.heap.size b 0 0 (SH.length, am_sl SH) := by
    refine ⟨hx, hb.trans am_l_cc.symm, hr.trans am_l_rt.symm, hml.trans am_l_ml.symm, ?_, fun w hw => hts w (List.mem_filter.mp hw).1, hlocks, ?_, ?_, ?_, hK, rfl, ?_, ?_, fun q hq => ?_⟩
    · rw [am_l_y]; exact hown
    · rw [am_l_y]; exact hnm
    · rw [am_l_fr]; decide
    · rw [am_l_lc]; decide
    · decide +kernel
    · decide +kernel
    · cases hq
      refine ⟨?_, hbl, hL⟩
      have : (fun j => Int32.ofInt (xs j).toInt) = xs := funext fun j => i_of _
      show va_X b L (fun j => Int32.ofInt (xs j).toInt) s s.heap
      rw [this]; exact hX
  have hS : am_St 278 s D ca s.heap.size b 0 0 (SH.length, am_sl SH) s.heap [] ls [some (.inr (.inr none)), none, none, none] [] (cm []) := by
    refine ⟨?_, ?_, rfl, fun k q h => by simp [am_ws] at h, va_S.rf, Nat.le_refl _, Nat.zero_le _, Nat.zero_le _, by decide +kernel⟩
    · rw [am_l_ml]; exact hl
    · rw [am_l_ml]; rfl
  have h := lw_entry hgo hC hS (l := l) (e := e) (below := below) (Q := Q) (fun pc H locs ls lv hrt hS2 => ?_)
  · exact h
  · rcases hrt with ⟨x, hx2, hd, -⟩ | ⟨x, hx2, -⟩ | ⟨hx2, -⟩
    · cases hx2
      rw [am_l_cc] at hd
      exact va_forget (fun q hq => hS2.2.2.2.2.1.2.2 q hq) (W.widen (by decide +kernel) (by decide +kernel) (hQ pc H ls hd))
    · cases hx2
    · cases hx2
end
section
/-! What is told of strips; counts; the digest. -/
theorem sf_last (a : Nat → Int) : ∀ (d i : Nat), sf a i (d + 1) = sf a i d + a (i + d)
  | 0, i => by simp [sf]
  | d + 1, i => by
    show a i + sf a (i + 1) (d + 1) = (a i + sf a (i + 1) d) + a (i + (d + 1))
    rw [sf_last a d (i + 1), show i + 1 + d = i + (d + 1) by omega, Int.add_assoc]
noncomputable abbrev isk (o k : Int) : Prop := o = k ∨ (o = 4 ∧ k = 1) ∨ (o = 5 ∧ k = 2)
theorem sp_isOf_11 {M : am_M} (h : Gd11 M) {i k : Int} (hi : 0 ≤ i ∧ i < M 11 0) (hk : 1 ≤ k ∧ k ≤ 5) : X_X2_isOf_11 i k M = some (b2 (isk (M 12 i.toNat) k), M) := by
  have h1 := h.1
  have h2 := h.2.1
  have hq := h.2.2.1 i.toNat
  simp only [X_X2_isOf_11, sp_kindOf_11 h (show iR i by unfold iR; omega), if_pos hi, ob, wI_of (x := M 12 i.toNat) (by omega) (by omega), wI_of (x := k) (by omega) (by omega)]
  generalize M 12 i.toNat = o at hq ⊢
  unfold b2
  repeat' split
  all_goals first | rfl | (exfalso; omega)
theorem sp_isOf_53 {M : am_M} (h : GdM M) {i k : Int} (hi : 0 ≤ i ∧ i < M 53 1) (hk : 1 ≤ k ∧ k ≤ 5) : X_X9_isOf_53 i k M = some (b2 (isk (M 55 i.toNat) k), M) := by
  have h1 := h.1
  have h2 := h.2.1
  have hq := h.2.2.1 i.toNat
  simp only [X_X9_isOf_53, wI_of (x := i) (by omega) (by omega), wI_of (x := M 55 i.toNat) (by omega) (by omega), wI_of (x := k) (by omega) (by omega), if_pos (show 0 ≤ i ∧ i < 12 by omega)]
  generalize M 55 i.toNat = o at hq ⊢
  unfold b2
  repeat' split
  all_goals first | rfl | (exfalso; omega)
theorem lp_hma (k : Int → am_M → am_Rs) (q : Int) (hq : 1 ≤ q ∧ q ≤ 5) (M : am_M) (h : Gd11 M) : ∀ (d n : Nat) (acc : Int) (i : Nat), (i : Int) + d = M 11 0 → d < n → XL_X2_howManyAre_11_1 k n q acc i M = k (acc + sf (fun j => b2 (isk (M 12 j) q)) i d) M
  | 0, n + 1, acc, i, hi, hn => by
    have hh := h.2.1
    simp (disch := omega) only [XL_X2_howManyAre_11_1, XB_X2_howManyAre_11_1, wI_of (x := (i : Int)), wI_of (x := M 11 0), if_neg, sf, Int.add_zero]
  | d + 1, n + 1, acc, i, hi, hn => by
    have hh := h.2.1
    have ih := lp_hma k q hq M h d n (acc + b2 (isk (M 12 i) q)) (i + 1) (by push_cast; omega) (by omega)
    simp (disch := omega) only [XL_X2_howManyAre_11_1, XB_X2_howManyAre_11_1, wI_of (x := (i : Int)), wI_of (x := M 11 0), if_pos, sp_isOf_11 h (show 0 ≤ (i : Int) ∧ (i : Int) < M 11 0 by omega) hq, ob, Int.toNat_natCast, b2_w]
    simp only [sf]
    rw [← Int.add_assoc, show (i : Int) + 1 = ((i + 1 : Nat) : Int) from rfl]
    by_cases c : isk (M 12 i) q
    · rw [b2_t c] at ih ⊢; rw [if_neg (by decide)]; exact ih
    · rw [b2_f c] at ih ⊢; rw [if_pos rfl]; rw [Int.add_zero] at ih ⊢; exact ih
theorem sp_hma {M : am_M} (h : Gd11 M) {q : Int} (hq : 1 ≤ q ∧ q ≤ 5) : X_X2_howManyAre_11 q M = some (sf (fun j => b2 (isk (M 12 j) q)) 0 (M 11 0).toNat, M) := by
  have h1 := h.1
  have h2 := h.2.1
  rw [X_X2_howManyAre_11, XB_X2_howManyAre_11_e]
  have := lp_hma XB_X2_howManyAre_11_5 q hq M h (M 11 0).toNat 1000 0 0 (by omega) (by omega)
  rw [show ((0 : Nat) : Int) = 0 from rfl, Int.zero_add] at this
  rw [this]
  rfl
theorem lp_km (k : Int → am_M → am_Rs) (q : Int) (hq : 1 ≤ q ∧ q ≤ 5) (M : am_M) (h : GdM M) : ∀ (d n : Nat) (acc : Int) (i : Nat), (i : Int) + d = M 53 1 → d < n → XL_X9_kindMany_53_1 k n q acc i M = k (acc + sf (fun j => b2 (isk (M 55 j) q)) i d) M
  | 0, n + 1, acc, i, hi, hn => by
    have hh := h.2.1
    simp (disch := omega) only [XL_X9_kindMany_53_1, XB_X9_kindMany_53_1, wI_of (x := (i : Int)), wI_of (x := M 53 1), if_neg, sf, Int.add_zero]
  | d + 1, n + 1, acc, i, hi, hn => by
    have hh := h.2.1
    have ih := lp_km k q hq M h d n (acc + b2 (isk (M 55 i) q)) (i + 1) (by push_cast; omega) (by omega)
    simp (disch := omega) only [XL_X9_kindMany_53_1, XB_X9_kindMany_53_1, wI_of (x := (i : Int)), wI_of (x := M 53 1), if_pos, sp_isOf_53 h (show 0 ≤ (i : Int) ∧ (i : Int) < M 53 1 by omega) hq, ob, Int.toNat_natCast, b2_w]
    simp only [sf]
    rw [← Int.add_assoc, show (i : Int) + 1 = ((i + 1 : Nat) : Int) from rfl]
    by_cases c : isk (M 55 i) q
    · rw [b2_t c] at ih ⊢; rw [if_neg (by decide)]; exact ih
    · rw [b2_f c] at ih ⊢; rw [if_pos rfl]; exact ih
theorem sp_km {M : am_M} (h : GdM M) {q : Int} (hq : 1 ≤ q ∧ q ≤ 5) : X_X9_kindMany_53 q M = some (sf (fun j => b2 (isk (M 55 j) q)) 0 (M 53 1).toNat, M) := by
  have h1 := h.1
  have h2 := h.2.1
  rw [X_X9_kindMany_53, XB_X9_kindMany_53_e]
  have := lp_km XB_X9_kindMany_53_6 q hq M h (M 53 1).toNat 1000 0 0 (by omega) (by omega)
  rw [show ((0 : Nat) : Int) = 0 from rfl, Int.zero_add] at this
  rw [this]
  rfl
theorem lp_hm_1 (k : Int → am_M → am_Rs) (M : am_M) (h : Sh1 M) : ∀ (d n : Nat) (acc : Int) (i : Nat), i + d = 6 → d < n → XL_X6_howMany_1_1 k n acc i M = k (acc + sf (fun j => b2 (0 ≤ M 2 j)) i d) M
  | 0, n + 1, acc, i, hi, hn => by
    simp (disch := omega) only [XL_X6_howMany_1_1, XB_X6_howMany_1_1, h.1, wI_of (x := (i : Int)), show wI 6 = 6 from rfl, if_neg, sf, Int.add_zero]
  | d + 1, n + 1, acc, i, hi, hn => by
    have ih := lp_hm_1 k M h d n (acc + b2 (0 ≤ M 2 i)) (i + 1) (by omega) (by omega)
    simp (disch := omega) only [XL_X6_howMany_1_1, XB_X6_howMany_1_1, h.1, wI_of (x := (i : Int)), show wI 6 = 6 from rfl, if_pos, sp_isThere_1 h (show 0 ≤ (i : Int) ∧ (i : Int) < 6 by omega), ob, Int.toNat_natCast, b2_w]
    simp only [sf]
    rw [← Int.add_assoc, show (i : Int) + 1 = ((i + 1 : Nat) : Int) from rfl]
    by_cases c : 0 ≤ M 2 i
    · rw [b2_t c] at ih ⊢; rw [if_neg (by decide)]; exact ih
    · rw [b2_f c] at ih ⊢; rw [if_pos rfl]; rw [Int.add_zero] at ih ⊢; exact ih
theorem sp_howMany_1 {M : am_M} (h : Sh1 M) : X_X6_howMany_1 M = some (sf (fun j => b2 (0 ≤ M 2 j)) 0 6, M) := by
  rw [X_X6_howMany_1, XB_X6_howMany_1_e]
  have := lp_hm_1 XB_X6_howMany_1_5 M h 6 1000 0 0 (by omega) (by omega)
  rw [show ((0 : Nat) : Int) = 0 from rfl, Int.zero_add] at this
  rw [this]
  rfl
theorem lp_hm_4 (k : Int → am_M → am_Rs) (M : am_M) (h : Sh4 M) : ∀ (d n : Nat) (acc : Int) (i : Nat), i + d = 4 → d < n → XL_X6_howMany_4_1 k n acc i M = k (acc + sf (fun j => b2 (0 ≤ M 5 j)) i d) M
  | 0, n + 1, acc, i, hi, hn => by
    simp (disch := omega) only [XL_X6_howMany_4_1, XB_X6_howMany_4_1, h.1, wI_of (x := (i : Int)), show wI 4 = 4 from rfl, if_neg, sf, Int.add_zero]
  | d + 1, n + 1, acc, i, hi, hn => by
    have ih := lp_hm_4 k M h d n (acc + b2 (0 ≤ M 5 i)) (i + 1) (by omega) (by omega)
    simp (disch := omega) only [XL_X6_howMany_4_1, XB_X6_howMany_4_1, h.1, wI_of (x := (i : Int)), show wI 4 = 4 from rfl, if_pos, sp_isThere_4 h (show 0 ≤ (i : Int) ∧ (i : Int) < 4 by omega), ob, Int.toNat_natCast, b2_w]
    simp only [sf]
    rw [← Int.add_assoc, show (i : Int) + 1 = ((i + 1 : Nat) : Int) from rfl]
    by_cases c : 0 ≤ M 5 i
    · rw [b2_t c] at ih ⊢; rw [if_neg (by decide)]; exact ih
    · rw [b2_f c] at ih ⊢; rw [if_pos rfl]; rw [Int.add_zero] at ih ⊢; exact ih
theorem sp_howMany_4 {M : am_M} (h : Sh4 M) : X_X6_howMany_4 M = some (sf (fun j => b2 (0 ≤ M 5 j)) 0 4, M) := by
  rw [X_X6_howMany_4, XB_X6_howMany_4_e]
  have := lp_hm_4 XB_X6_howMany_4_5 M h 4 1000 0 0 (by omega) (by omega)
  rw [show ((0 : Nat) : Int) = 0 from rfl, Int.zero_add] at this
  rw [this]
  rfl
theorem lp_kept (k : Int → am_M → am_Rs) (M : am_M) (h : ∀ j : Nat, j < 3 → -1 ≤ M 35 j ∧ M 35 j ≤ 40) : ∀ (d n : Nat) (acc : Int) (i : Nat), i + d = 3 → d < n → XL_X8_keptLands_0_1 k n acc i M = k (acc + sf (fun j => b2 (0 ≤ M 35 j)) i d) M
  | 0, n + 1, acc, i, hi, hn => by
    simp (disch := omega) only [XL_X8_keptLands_0_1, XB_X8_keptLands_0_1, wI_of (x := (i : Int)), if_neg, sf, Int.add_zero]
  | d + 1, n + 1, acc, i, hi, hn => by
    have hq := h i (by omega)
    have ih := lp_kept k M h d n (acc + b2 (0 ≤ M 35 i)) (i + 1) (by omega) (by omega)
    simp (disch := omega) only [XL_X8_keptLands_0_1, XB_X8_keptLands_0_1, wI_of (x := (i : Int)), if_pos, Int.toNat_natCast, wI_of (x := M 35 i)]
    simp only [sf]
    rw [← Int.add_assoc, show (i : Int) + 1 = ((i + 1 : Nat) : Int) from rfl]
    by_cases c : 0 ≤ M 35 i
    · rw [b2_t c] at ih ⊢; rw [if_neg (by omega)]; exact ih
    · rw [b2_f c] at ih ⊢; rw [if_pos (by omega)]; rw [Int.add_zero] at ih ⊢; exact ih
theorem sp_kept {M : am_M} (h : ∀ j : Nat, j < 3 → -1 ≤ M 35 j ∧ M 35 j ≤ 40) : X_X8_keptLands_0 M = some (sf (fun j => b2 (0 ≤ M 35 j)) 0 3, M) := by
  rw [X_X8_keptLands_0, XB_X8_keptLands_0_e]
  have := lp_kept XB_X8_keptLands_0_5 M h 3 1000 0 0 (by omega) (by omega)
  rw [show ((0 : Nat) : Int) = 0 from rfl, Int.zero_add] at this
  rw [this]
  rfl
theorem lp_there6 (k : Int → am_M → am_Rs) (M : am_M) (h : ∀ j, -1 ≤ M 57 j ∧ M 57 j ≤ 40) : ∀ (d n : Nat) (acc : Int) (i : Nat), i + d = 6 → d < n → XL_X9_thereOf_53_1 k n 6 acc i M = k (acc + sf (fun j => b2 (0 ≤ M 57 j)) i d) M
  | 0, n + 1, acc, i, hi, hn => by
    simp (disch := omega) only [XL_X9_thereOf_53_1, XB_X9_thereOf_53_1, wI_of (x := (i : Int)), if_neg, sf, Int.add_zero]
  | d + 1, n + 1, acc, i, hi, hn => by
    have hq := h i
    have ih := lp_there6 k M h d n (acc + b2 (0 ≤ M 57 i)) (i + 1) (by omega) (by omega)
    simp (disch := omega) only [XL_X9_thereOf_53_1, XB_X9_thereOf_53_1, wI_of (x := (i : Int)), show wI 6 = 6 from rfl, if_pos, if_true, Int.toNat_natCast, wI_of (x := M 57 i)]
    simp only [sf]
    rw [← Int.add_assoc, show (i : Int) + 1 = ((i + 1 : Nat) : Int) from rfl]
    by_cases c : 0 ≤ M 57 i
    · rw [b2_t c] at ih ⊢; rw [if_neg (by omega)]; exact ih
    · rw [b2_f c] at ih ⊢; rw [if_pos (by omega)]; exact ih
theorem lp_there7 (k : Int → am_M → am_Rs) (M : am_M) (h : ∀ j, -1 ≤ M 59 j ∧ M 59 j ≤ 60) : ∀ (d n : Nat) (acc : Int) (i : Nat), i + d = 6 → d < n → XL_X9_thereOf_53_1 k n 7 acc i M = k (acc + sf (fun j => b2 (j < 4 ∧ 0 ≤ M 59 j)) i d) M
  | 0, n + 1, acc, i, hi, hn => by
    simp (disch := omega) only [XL_X9_thereOf_53_1, XB_X9_thereOf_53_1, wI_of (x := (i : Int)), if_neg, sf, Int.add_zero]
  | d + 1, n + 1, acc, i, hi, hn => by
    have hq := h i
    have ih := lp_there7 k M h d n (acc + b2 (i < 4 ∧ 0 ≤ M 59 i)) (i + 1) (by omega) (by omega)
    simp (disch := omega) only [XL_X9_thereOf_53_1, XB_X9_thereOf_53_1, wI_of (x := (i : Int)), show wI 7 = 7 from rfl, show ¬ ((7 : Int) = 6) by decide, if_pos, if_true, if_false, Int.toNat_natCast, wI_of (x := M 59 i)]
    simp only [sf]
    rw [← Int.add_assoc, show (i : Int) + 1 = ((i + 1 : Nat) : Int) from rfl]
    by_cases c1 : i < 4
    · rw [if_pos (show (i : Int) < 4 by omega)]
      by_cases c : 0 ≤ M 59 i
      · rw [b2_t ⟨c1, c⟩] at ih ⊢; rw [if_neg (by omega)]; exact ih
      · rw [b2_f (fun q => c q.2)] at ih ⊢; rw [if_pos (by omega)]; exact ih
    · rw [if_neg (show ¬ (i : Int) < 4 by omega)]
      rw [b2_f (fun q => c1 q.1)] at ih ⊢; exact ih
theorem lp_there8 (k : Int → am_M → am_Rs) (M : am_M) (h : ∀ j : Nat, j < 3 → -1 ≤ M 54 (121 * (1 + j)) ∧ M 54 (121 * (1 + j)) ≤ 40) : ∀ (d n : Nat) (acc : Int) (i : Nat), i + d = 6 → d < n → XL_X9_thereOf_53_1 k n 8 acc i M = k (acc + sf (fun j => b2 (j < 3 ∧ 0 ≤ M 54 (121 * (1 + j)))) i d) M
  | 0, n + 1, acc, i, hi, hn => by
    simp (disch := omega) only [XL_X9_thereOf_53_1, XB_X9_thereOf_53_1, wI_of (x := (i : Int)), if_neg, sf, Int.add_zero]
  | d + 1, n + 1, acc, i, hi, hn => by
    have ih := lp_there8 k M h d n (acc + b2 (i < 3 ∧ 0 ≤ M 54 (121 * (1 + i)))) (i + 1) (by omega) (by omega)
    have e : ∀ _ : Unit, wI (121 * (1 + (i : Int)) + 0) = ((121 * (1 + i) : Nat) : Int) := fun _ => by rw [wI_of (by omega) (by omega)]; push_cast; omega
    simp (disch := omega) only [XL_X9_thereOf_53_1, XB_X9_thereOf_53_1, wI_of (x := (i : Int)), show wI 8 = 8 from rfl, show ¬ ((8 : Int) = 6) by decide, show ¬ ((8 : Int) = 7) by decide, if_pos, if_false, e (), Int.toNat_natCast]
    simp only [sf]
    rw [← Int.add_assoc, show (i : Int) + 1 = ((i + 1 : Nat) : Int) from rfl]
    by_cases c1 : i < 3
    · have hq := h i c1
      rw [if_pos (show (i : Int) < 3 by omega), wI_of (x := M 54 (121 * (1 + i))) (by omega) (by omega)]
      by_cases c : 0 ≤ M 54 (121 * (1 + i))
      · rw [b2_t ⟨c1, c⟩] at ih ⊢; rw [if_neg (by omega)]; exact ih
      · rw [b2_f (fun q => c q.2)] at ih ⊢; rw [if_pos (by omega)]; exact ih
    · rw [if_neg (show ¬ (i : Int) < 3 by omega)]
      rw [b2_f (fun q => c1 q.1)] at ih ⊢; exact ih
theorem b2F : b2 False = 0 := rfl
noncomputable def cnt (M : am_M) : Nat → Int
  | 0 => M 11 0
  | 1 => M 14 0
  | 2 => M 14 2
  | 3 => M 14 3
  | 4 => sf (fun j => b2 (isk (M 12 j) 1)) 0 (M 11 0).toNat
  | 5 => sf (fun j => b2 (isk (M 12 j) 2)) 0 (M 11 0).toNat
  | 6 => sf (fun j => b2 (0 ≤ M 2 j)) 0 6
  | 7 => sf (fun j => b2 (0 ≤ M 5 j)) 0 4
  | _ => sf (fun j => b2 (0 ≤ M 35 j)) 0 3
theorem Inv.k35 {M : am_M} (I : Inv M) : ∀ j : Nat, j < 3 → M 54 (121 * (1 + j)) = M 35 j ∧ -1 ≤ M 35 j ∧ M 35 j ≤ 40 := fun j hj => by
  obtain ⟨k1, k2, k3⟩ := I.2.2.2.2.2.1
  match j, hj with
  | 0, _ => exact ⟨k1.1, k1.2.1, k1.2.2.1⟩
  | 1, _ => exact ⟨k2.1, k2.2.1, k2.2.2.1⟩
  | 2, _ => exact ⟨k3.1, k3.2.1, k3.2.2.1⟩
theorem sp_count_c {M : am_M} (I : Inv M) : ∀ v : Nat, v < 9 → X_X8_count_0 v M = some (cnt M v, M)
  | 0, _ => rfl
  | 1, _ => rfl
  | 2, _ => rfl
  | 3, _ => rfl
  | 4, _ => by
    show (X_X2_howManyAre_11 1 M).bind _ = _
    rw [sp_hma I.g11 (by decide)]; rfl
  | 5, _ => by
    show (X_X2_howManyAre_11 2 M).bind _ = _
    rw [sp_hma I.g11 (by decide)]; rfl
  | 6, _ => by
    show (X_X6_howMany_1 M).bind _ = _
    rw [sp_howMany_1 I.sh1]; rfl
  | 7, _ => by
    show (X_X6_howMany_4 M).bind _ = _
    rw [sp_howMany_4 I.sh4]; rfl
  | 8, _ => by
    show (X_X8_keptLands_0 M).bind _ = _
    rw [sp_kept (fun j hj => (I.k35 j hj).2)]; rfl
theorem sp_count_m {M : am_M} (I : Inv M) : ∀ v : Nat, v < 9 → X_X9_countOf_53 v M = some (cnt M v, M)
  | 0, _ => by
    show some (M 53 1, M) = some (M 11 0, M)
    rw [I.2.2.2.1.1]
  | 1, _ => by
    show some (M 54 0, M) = some (M 14 0, M)
    rw [show M 54 0 = M 14 0 from I.2.2.2.2.1.1.1]
  | 2, _ => by
    show some (M 54 2, M) = some (M 14 2, M)
    rw [show M 54 2 = M 14 2 from I.2.2.2.2.1.1.2.2.2.2.1]
  | 3, _ => by
    show some (M 54 3, M) = some (M 14 3, M)
    rw [show M 54 3 = M 14 3 from I.2.2.2.2.1.1.2.2.2.2.2.1]
  | 4, _ => by
    show (X_X9_kindMany_53 1 M).bind _ = _
    have hs := I.g11.1
    rw [sp_km I.gM (by decide), I.2.2.2.1.1, sf_c (b := fun j => b2 (isk (M 12 j) 1)) _ _ (fun j h1 h2 => by rw [(I.2.2.2.1.2.2.2.2.2.2.2.1 j (by omega)).1])]; rfl
  | 5, _ => by
    show (X_X9_kindMany_53 2 M).bind _ = _
    have hs := I.g11.1
    rw [sp_km I.gM (by decide), I.2.2.2.1.1, sf_c (b := fun j => b2 (isk (M 12 j) 2)) _ _ (fun j h1 h2 => by rw [(I.2.2.2.1.2.2.2.2.2.2.2.1 j (by omega)).1])]; rfl
  | 6, _ => by
    show (X_X9_thereOf_53 6 M).bind _ = _
    obtain ⟨e57, h2, -⟩ := I.2.1
    rw [X_X9_thereOf_53, XB_X9_thereOf_53_e]
    have := lp_there6 XB_X9_thereOf_53_16 M (by rw [e57]; exact h2) 6 1000 0 0 (by omega) (by omega)
    rw [show ((0 : Nat) : Int) = 0 from rfl, Int.zero_add, e57] at this
    rw [this]; rfl
  | 7, _ => by
    show (X_X9_thereOf_53 7 M).bind _ = _
    obtain ⟨e59, h2, -⟩ := I.2.2.1
    rw [X_X9_thereOf_53, XB_X9_thereOf_53_e]
    have := lp_there7 XB_X9_thereOf_53_16 M (by rw [e59]; exact h2) 6 1000 0 0 (by omega) (by omega)
    rw [show ((0 : Nat) : Int) = 0 from rfl, Int.zero_add, e59] at this
    rw [this]
    show some (_, M) = some (_, M)
    simp [sf, cnt, b2F]
  | 8, _ => by
    show (X_X9_thereOf_53 8 M).bind _ = _
    rw [X_X9_thereOf_53, XB_X9_thereOf_53_e]
    have := lp_there8 XB_X9_thereOf_53_16 M (fun j hj => by rw [(I.k35 j hj).1]; exact (I.k35 j hj).2) 6 1000 0 0 (by omega) (by omega)
    rw [show ((0 : Nat) : Int) = 0 from rfl, Int.zero_add] at this
    rw [this]
    show some (_, M) = some (_, M)
    have e0 := (I.k35 0 (by decide)).1
    have e1 := (I.k35 1 (by decide)).1
    have e2 := (I.k35 2 (by decide)).1
    simp only [Nat.add_zero, Nat.mul_one, Nat.reduceAdd, Nat.reduceMul] at e0 e1 e2
    simp [sf, cnt, e0, e1, e2, b2F]
theorem sp_count_o {M : am_M} {v : Int} (hv : iR v) (c : ¬ (0 ≤ v ∧ v ≤ 8)) : X_X8_count_0 v M = some (-1, M) := by
  unfold X_X8_count_0
  rw [wI_R hv, if_neg (by omega), if_neg (by omega), if_neg (by omega), if_neg (by omega), if_neg (by omega), if_neg (by omega), if_neg (by omega), if_neg (by omega), if_neg (by omega)]
theorem eq_count {M : am_M} (I : Inv M) {v : Int} (hv : iR v) : Step (X_X8_count_0 v) (X_X9_count_53 v) M := by
  have i8 : iR 8 := by unfold iR; omega
  by_cases c : 0 ≤ v ∧ v ≤ 8
  · obtain ⟨w, hw⟩ := Int.eq_ofNat_of_zero_le c.1
    refine st_same I (v := cnt M w) (w := cnt M w) ?_ ?_ rfl
    · rw [hw]; exact sp_count_c I w (by omega)
    · rw [X_X9_count_53, wI_R hv, sp_in M hv i0 i8, b2_t c, ob]
      rw [if_neg (by rw [w1]; decide), hw, sp_count_m I w (by omega), ob]
  · refine st_same I (v := -1) (w := -1) (sp_count_o hv c) ?_ rfl
    rw [X_X9_count_53, wI_R hv, sp_in M hv i0 i8, b2_f c, ob]; exact if_pos wI_0
end
section
/-! What a strip tells; what a crown got; the digest. -/
theorem td10 {d : Int} (h : 0 ≤ d) : d.tdiv 10 = d / 10 := Int.tdiv_eq_ediv_of_nonneg h
theorem lp_paid (k : Int → am_M → am_Rs) (M : am_M) (i c : Nat) (hi : i < 12) (hc : c < 2) (hd : 0 ≤ M 14 0 ∧ M 14 0 ≤ 40) : ∀ (e n : Nat) (acc : Int) (t : Nat), (t : Int) + e = M 14 0 / 10 → e < n → XL_X1_paidBy_14_1 k n i c acc t M = k (acc + sf (fun t => M 18 ((t * 12 + i) * 2 + c)) t e) M
  | 0, n + 1, acc, t, ht, hn => by
    rw [XL_X1_paidBy_14_1, XB_X1_paidBy_14_1, wI_of (x := M 14 0) (by omega) (by omega), td10 hd.1, wI_of (x := (t : Int)) (by omega) (by omega), wI_of (x := M 14 0 / 10) (by omega) (by omega), if_neg (by omega)]
    simp only [sf, Int.add_zero]
  | e + 1, n + 1, acc, t, ht, hn => by
    have ih := lp_paid k M i c hi hc hd e n (acc + M 18 ((t * 12 + i) * 2 + c)) (t + 1) (by push_cast; omega) (by omega)
    have e1 : ∀ _ : Unit, wI (((t : Int) * 12 + i) * 2 + c) = (((t * 12 + i) * 2 + c : Nat) : Int) := fun _ => by rw [wI_of (by omega) (by omega)]; push_cast; rfl
    rw [XL_X1_paidBy_14_1, XB_X1_paidBy_14_1, wI_of (x := M 14 0) (by omega) (by omega), td10 hd.1, wI_of (x := (t : Int)) (by omega) (by omega), wI_of (x := M 14 0 / 10) (by omega) (by omega), if_pos (by omega), X_X1_slotOf, ob]
    simp only [e1 (), Int.toNat_natCast]
    rw [if_neg (by omega), if_pos (by omega), if_pos (by omega), show (t : Int) + 1 = ((t + 1 : Nat) : Int) from rfl, ih]
    simp only [sf, Int.add_assoc]
theorem sp_paid {M : am_M} {i c : Nat} (hi : i < 12) (hc : c < 2) (hd : 0 ≤ M 14 0 ∧ M 14 0 ≤ 40) : X_X1_paidBy_14 i c M = some (sf (fun t => M 18 ((t * 12 + i) * 2 + c)) 0 (M 14 0 / 10).toNat, M) := by
  rw [X_X1_paidBy_14, XB_X1_paidBy_14_e]
  have := lp_paid XB_X1_paidBy_14_6 M i c hi hc hd (M 14 0 / 10).toNat 1000 0 0 (by omega) (by omega)
  rw [show ((0 : Nat) : Int) = 0 from rfl, Int.zero_add] at this
  rw [this]
  rfl
theorem tot_sf {kd du h R p : Nat → Int} {c : Int} {i : Nat} : ∀ (n : Nat), (∀ t, t < n → p t = due kd du c i (h (10 * t + 10)) (if c = 0 then R (10 * t + 9) / 10 else R (10 * t + 9) % 10)) → sf p 0 n = tot kd du h R c i n
  | 0, _ => rfl
  | n + 1, hp => by
    rw [sf_last, tot_sf n (fun t ht => hp t (by omega)), Nat.zero_add, hp n (by omega)]
    rfl
theorem lp_changes (k : Int → am_M → am_Rs) (M : am_M) (i : Nat) (hi : i < 12) (hd : 0 ≤ M 14 0 ∧ M 14 0 ≤ 40) (hh : ∀ j, 0 ≤ M 17 j ∧ M 17 j ≤ 12) : ∀ (e n : Nat) (acc : Int) (t : Nat), (t : Int) + e = M 14 0 → e < n → XL_X1_changesOf_14_1 k n i acc t M = k (acc + sf (fun j => if crw i (M 17 j) = crw i (M 17 (j + 1)) then 0 else 1) t e) M
  | 0, n + 1, acc, t, ht, hn => by
    rw [XL_X1_changesOf_14_1, XB_X1_changesOf_14_1, wI_of (x := M 14 0) (by omega) (by omega), wI_of (x := (t : Int)) (by omega) (by omega), if_neg (by omega)]
    simp only [sf, Int.add_zero]
  | e + 1, n + 1, acc, t, ht, hn => by
    have ih := lp_changes k M i hi hd hh e n (acc + (if crw i (M 17 t) = crw i (M 17 (t + 1)) then 0 else 1)) (t + 1) (by push_cast; omega) (by omega)
    have a1 : X_X1_borderAhead_14 (t : Int) M = some (M 17 t, M) := by
      rw [X_X1_borderAhead_14, wI_of (x := (t : Int)) (by omega) (by omega), if_neg (by omega), if_neg (by omega), if_pos (by omega), Int.toNat_natCast]
    have a2 : X_X1_borderAhead_14 ((t : Int) + 1) M = some (M 17 (t + 1), M) := by
      rw [X_X1_borderAhead_14, wI_of (x := (t : Int) + 1) (by omega) (by omega), if_neg (by omega), if_neg (by omega), if_pos (by omega), show ((t : Int) + 1).toNat = t + 1 by omega]
    have q1 := hh t
    have q2 := hh (t + 1)
    have r1 : ∀ b : Int, 0 ≤ crw i b ∧ crw i b ≤ 1 := fun b => by unfold crw; split <;> omega
    have w1 : ∀ b : Int, wI (crw i b) = crw i b := fun b => wI_of (by have := r1 b; omega) (by have := r1 b; omega)
    rw [XL_X1_changesOf_14_1, XB_X1_changesOf_14_1, wI_of (x := M 14 0) (by omega) (by omega), wI_of (x := (t : Int)) (by omega) (by omega), if_pos (by omega), a1, ob]
    dsimp only
    rw [sp_crownOf i (M 17 t) M (by unfold iR; omega) (by unfold iR; omega), ob]
    dsimp only
    rw [a2, ob]
    dsimp only
    rw [sp_crownOf i (M 17 (t + 1)) M (by unfold iR; omega) (by unfold iR; omega), ob]
    dsimp only
    rw [w1, w1, show (t : Int) + 1 = ((t + 1 : Nat) : Int) from rfl]
    simp only [sf]
    rw [← Int.add_assoc]
    by_cases c : crw i (M 17 t) = crw i (M 17 (t + 1))
    · rw [if_pos c] at ih ⊢; rw [if_pos c]; rw [Int.add_zero] at ih ⊢; exact ih
    · rw [if_neg c] at ih ⊢; rw [if_neg c]; exact ih
theorem chg_sf {h : Nat → Int} {i : Int} : ∀ (n : Nat), sf (fun j => if crw i (h j) = crw i (h (j + 1)) then 0 else 1) 0 n = chg h i n
  | 0 => rfl
  | n + 1 => by
    rw [sf_last, chg_sf n, Nat.zero_add]
    rfl
theorem sp_changes {M : am_M} {i : Nat} (hi : i < 12) (hd : 0 ≤ M 14 0 ∧ M 14 0 ≤ 40) (hh : ∀ j, 0 ≤ M 17 j ∧ M 17 j ≤ 12) : X_X1_changesOf_14 i M = some (chg (M 17) i (M 14 0).toNat, M) := by
  rw [X_X1_changesOf_14, XB_X1_changesOf_14_e]
  have := lp_changes XB_X1_changesOf_14_5 M i hi hd hh (M 14 0).toNat 1000 0 0 (by omega) (by omega)
  rw [show ((0 : Nat) : Int) = 0 from rfl, Int.zero_add, chg_sf] at this
  rw [this]
  rfl
/-- what a strip tells -/
noncomputable def fct (M : am_M) (i : Nat) : Nat → Int
  | 0 => M 12 i
  | 1 => M 13 i
  | 2 => crw i (M 14 1)
  | 3 => M 54 (4 + 3 * i)
  | 4 => M 54 (4 + 3 * i + 1)
  | _ => M 54 (4 + 3 * i + 2)
theorem paid_eq {M : am_M} (I : Inv M) {i : Nat} (hi : (i : Int) < M 11 0) : sf (fun t => M 18 ((t * 12 + i) * 2 + 0)) 0 (M 14 0 / 10).toNat = M 54 (4 + 3 * i) ∧ sf (fun t => M 18 ((t * 12 + i) * 2 + 1)) 0 (M 14 0 / 10).toNat = M 54 (4 + 3 * i + 1) := by
  obtain ⟨⟨o1, o2, -⟩, -, -, ⟨-, p2⟩, hT⟩ := I.2.2.2.2.1
  have h := hT i hi
  rw [Nat.zero_add] at h
  refine ⟨?_, ?_⟩
  · rw [h.1]
    exact tot_sf _ fun t ht => by rw [if_pos rfl]; exact (p2 t i (by omega) hi).1
  · rw [h.2.1]
    exact tot_sf _ fun t ht => by rw [if_neg (by decide)]; exact (p2 t i (by omega) hi).2
theorem sp_fact {M : am_M} (I : Inv M) {i : Nat} (hi : (i : Int) < M 11 0) : ∀ w : Nat, w < 6 → X_X8_stripFact_0 i w M = some (fct M i w, M) := by
  have h12 := I.2.2.2.1.2.2.1
  have hd := I.2.2.2.2.1.1.2.1
  have hb := I.2.2.2.2.1.1.2.2.2.1
  have hh := I.2.2.2.2.1.2.2.1.2.2.1
  have hT := I.2.2.2.2.1.2.2.2.2 i hi
  have iRi : iR (i : Int) := by unfold iR; omega
  have hp := paid_eq I hi
  intro w hw
  match w, hw with
  | 0, _ =>
    rw [X_X8_stripFact_0, if_pos (show wI ((0 : Nat) : Int) = 0 from rfl), sp_kindOf_11 I.g11 iRi, if_pos ⟨by omega, hi⟩, ob, Int.toNat_natCast]; rfl
  | 1, _ =>
    rw [X_X8_stripFact_0, if_neg (show ¬ wI ((1 : Nat) : Int) = 0 by decide), if_pos (show wI ((1 : Nat) : Int) = 0 + 1 from rfl), sp_dueOf_11 I.g11 iRi, if_pos ⟨by omega, hi⟩, ob, Int.toNat_natCast]; rfl
  | 2, _ =>
    show (X_X2_crownOf i (M 14 1) M).bind _ = _
    rw [sp_crownOf i (M 14 1) M iRi (by unfold iR; omega), ob]; rfl
  | 3, _ =>
    show (X_X1_paidBy_14 i 0 M).bind _ = _
    rw [show (0 : Int) = ((0 : Nat) : Int) from rfl, sp_paid (by omega) (by omega) hd, ob, hp.1]; rfl
  | 4, _ =>
    show (X_X1_paidBy_14 i 1 M).bind _ = _
    rw [show (1 : Int) = ((1 : Nat) : Int) from rfl, sp_paid (by omega) (by omega) hd, ob, hp.2]; rfl
  | 5, _ =>
    show (X_X1_changesOf_14 i M).bind _ = _
    rw [sp_changes (by omega) hd hh, ob, ← hT.2.2, Nat.zero_add]; rfl
theorem sp_told {M N : am_M} (I : Inv M) (h54 : N 54 = M 54) (h55 : N 55 = M 55) (h56 : N 56 = M 56) {i : Nat} (hi : (i : Int) < M 11 0) : ∀ w : Nat, w < 6 → X_X9_toldOf_53 i w N = some (fct M i w, N) := by
  have h12 := I.2.2.2.1.2.2.1
  have hg := I.2.2.2.1.2.2.2.2.2.2.2.1 i hi
  have o3 : M 54 1 = M 14 1 := I.2.2.2.2.1.1.2.2.1
  have hb := I.2.2.2.2.1.1.2.2.2.1
  have wi : ∀ _ : Unit, wI (i : Int) = (i : Int) := fun _ => wI_of (by omega) (by omega)
  intro w hw
  match w, hw with
  | 0, _ =>
    rw [X_X9_toldOf_53, if_pos (show wI ((0 : Nat) : Int) = 0 from rfl), wi (), if_pos (by omega), Int.toNat_natCast, h55, hg.1]; rfl
  | 1, _ =>
    rw [X_X9_toldOf_53, if_neg (show ¬ wI ((1 : Nat) : Int) = 0 by decide), if_pos (show wI ((1 : Nat) : Int) = 0 + 1 from rfl), wi (), if_pos (by omega), Int.toNat_natCast, h56, hg.2]; rfl
  | 2, _ =>
    show (if wI (i : Int) < wI (N 54 1) then some (0, N) else some (1, N)) = some (crw i (M 14 1), N)
    rw [wi (), h54, o3, wI_of (x := M 14 1) (by omega) (by omega)]
    unfold crw
    split <;> rfl
  | 3, _ =>
    show (if 0 ≤ wI (4 + 3 * (i : Int) + 3 - 3) ∧ wI (4 + 3 * (i : Int) + 3 - 3) < 605 then some (N 54 (wI (4 + 3 * (i : Int) + 3 - 3)).toNat, N) else none) = _
    rw [wI_of (x := 4 + 3 * (i : Int) + 3 - 3) (by omega) (by omega), if_pos (by omega), show (4 + 3 * (i : Int) + 3 - 3).toNat = 4 + 3 * i by omega, h54]; rfl
  | 4, _ =>
    show (if 0 ≤ wI (4 + 3 * (i : Int) + 4 - 3) ∧ wI (4 + 3 * (i : Int) + 4 - 3) < 605 then some (N 54 (wI (4 + 3 * (i : Int) + 4 - 3)).toNat, N) else none) = _
    rw [wI_of (x := 4 + 3 * (i : Int) + 4 - 3) (by omega) (by omega), if_pos (by omega), show (4 + 3 * (i : Int) + 4 - 3).toNat = 4 + 3 * i + 1 by omega, h54]; rfl
  | 5, _ =>
    show (if 0 ≤ wI (4 + 3 * (i : Int) + 5 - 3) ∧ wI (4 + 3 * (i : Int) + 5 - 3) < 605 then some (N 54 (wI (4 + 3 * (i : Int) + 5 - 3)).toNat, N) else none) = _
    rw [wI_of (x := 4 + 3 * (i : Int) + 5 - 3) (by omega) (by omega), if_pos (by omega), show (4 + 3 * (i : Int) + 5 - 3).toNat = 4 + 3 * i + 2 by omega, h54]; rfl
theorem eq_strip {M : am_M} (I : Inv M) {i w : Int} (hi : iR i) (hw : iR w) : Step (X_X8_strip_0 i w) (X_X9_strip_53 i w) M := by
  have i5 : iR 5 := by unfold iR; omega
  have es := I.2.2.2.1.1
  have hs : 0 ≤ M 53 1 ∧ M 53 1 ≤ 12 := ⟨I.gM.1, I.gM.2.1⟩
  by_cases c : 0 ≤ i ∧ i < M 11 0
  · by_cases c2 : 0 ≤ w ∧ w ≤ 5
    · obtain ⟨x, rfl⟩ := Int.eq_ofNat_of_zero_le c.1
      obtain ⟨y, rfl⟩ := Int.eq_ofNat_of_zero_le c2.1
      refine st_tell I (v := fct M x y) (w := fct M x y) rfl ?_ ?_
      · rw [X_X8_strip_0, sp_has_11 I.g11 hi, b2_t c, ob, if_neg (by rw [w1]; decide), wI_R hw, if_neg (by omega), if_pos (by omega)]
        rw [sp_fact I c.2 y (by omega), ob, sp_tell_0, ob]
      · have hs' : 0 ≤ (cT (fct M x y) M) 53 1 ∧ (cT (fct M x y) M) 53 1 ≤ 12 := hs
        have es' : (cT (fct M x y) M) 53 1 = M 11 0 := es
        rw [X_X9_strip_53, sp_isStrip hs' hi, es', b2_t c, ob, if_neg (by rw [w1]; decide), wI_R hw, sp_in _ hw i0 i5, b2_t c2, ob, if_neg (by rw [w1]; decide)]
        rw [sp_told (N := cT (fct M x y) M) I rfl rfl rfl c.2 y (by omega), ob, sp_tell_53, ob]
    · refine st_same I (v := -1) (w := -1) ?_ ?_ rfl
      · rw [X_X8_strip_0, sp_has_11 I.g11 hi, b2_t c, ob, if_neg (by rw [w1]; decide), wI_R hw]
        by_cases c3 : w < 0
        · rw [if_pos c3]
        · rw [if_neg c3, if_neg (by omega)]
      · rw [X_X9_strip_53, sp_isStrip hs hi, es, b2_t c, ob, if_neg (by rw [w1]; decide), wI_R hw, sp_in _ hw i0 i5, b2_f c2, ob]
        exact if_pos wI_0
  · refine st_same I (v := -1) (w := -1) ?_ ?_ rfl
    · rw [X_X8_strip_0, sp_has_11 I.g11 hi, b2_f c, ob]; exact if_pos wI_0
    · rw [X_X9_strip_53, sp_isStrip hs hi, es, b2_f c, ob]; exact if_pos wI_0
theorem lp_gotc (k : Int → am_M → am_Rs) (M : am_M) (c : Nat) (hc : c < 2) (hs : 0 ≤ M 11 0 ∧ M 11 0 ≤ 12) (F : Nat → Int) (hP : ∀ i : Nat, (i : Int) < M 11 0 → X_X1_paidBy_14 i c M = some (F i, M)) : ∀ (e n : Nat) (acc : Int) (i : Nat), (i : Int) + e = M 11 0 → e < n → XL_X8_got_0_3 k n c acc i M = k (acc + sf F i e) M
  | 0, n + 1, acc, i, hi, hn => by
    rw [XL_X8_got_0_3, XB_X8_got_0_3, wI_of (x := M 11 0) (by omega) (by omega), wI_of (x := (i : Int)) (by omega) (by omega), if_neg (by omega)]
    simp only [sf, Int.add_zero]
  | e + 1, n + 1, acc, i, hi, hn => by
    have ih := lp_gotc k M c hc hs F hP e n (acc + F i) (i + 1) (by push_cast; omega) (by omega)
    rw [XL_X8_got_0_3, XB_X8_got_0_3, wI_of (x := M 11 0) (by omega) (by omega), wI_of (x := (i : Int)) (by omega) (by omega), if_pos (by omega), hP i (by omega), ob]
    dsimp only
    rw [show (i : Int) + 1 = ((i + 1 : Nat) : Int) from rfl, ih]
    simp only [sf, Int.add_assoc]
theorem lp_gotm (k : Int → am_M → am_Rs) (M : am_M) (c : Nat) (hc : c < 2) (hs : 0 ≤ M 53 1 ∧ M 53 1 ≤ 12) : ∀ (e n : Nat) (acc : Int) (i : Nat), (i : Int) + e = M 53 1 → e < n → XL_X9_got_53_3 k n c acc i M = k (acc + sf (fun i => M 54 (4 + 3 * i + c)) i e) M
  | 0, n + 1, acc, i, hi, hn => by
    rw [XL_X9_got_53_3, XB_X9_got_53_3, wI_of (x := M 53 1) (by omega) (by omega), wI_of (x := (i : Int)) (by omega) (by omega), if_neg (by omega)]
    simp only [sf, Int.add_zero]
  | e + 1, n + 1, acc, i, hi, hn => by
    have ih := lp_gotm k M c hc hs e n (acc + M 54 (4 + 3 * i + c)) (i + 1) (by push_cast; omega) (by omega)
    rw [XL_X9_got_53_3, XB_X9_got_53_3, wI_of (x := M 53 1) (by omega) (by omega), wI_of (x := (i : Int)) (by omega) (by omega), if_pos (by omega), wI_of (x := 4 + 3 * (i : Int) + c) (by omega) (by omega), if_pos (by omega), show (4 + 3 * (i : Int) + c).toNat = 4 + 3 * i + c by omega, show (i : Int) + 1 = ((i + 1 : Nat) : Int) from rfl, ih]
    simp only [sf, Int.add_assoc]
theorem eq_got {M : am_M} (I : Inv M) {c : Int} (hc : iR c) : Step (X_X8_got_0 c) (X_X9_got_53 c) M := by
  have i1 : iR 1 := by unfold iR; omega
  have es := I.2.2.2.1.1
  have hs : 0 ≤ M 53 1 ∧ M 53 1 ≤ 12 := ⟨I.gM.1, I.gM.2.1⟩
  have hs' : 0 ≤ M 11 0 ∧ M 11 0 ≤ 12 := ⟨I.g11.1, I.g11.2.1⟩
  have hd := I.2.2.2.2.1.1.2.1
  by_cases q : 0 ≤ c ∧ c ≤ 1
  · obtain ⟨x, hx⟩ := Int.eq_ofNat_of_zero_le q.1
    have hx2 : x < 2 := by omega
    refine st_same I (v := sf (fun i => M 54 (4 + 3 * i + x)) 0 (M 11 0).toNat) (w := sf (fun i => M 54 (4 + 3 * i + x)) 0 (M 11 0).toNat) ?_ ?_ rfl
    · rw [X_X8_got_0, XB_X8_got_0_e, sp_isCrown M hc, b2_t q, ob, if_neg (by rw [w1]; decide), hx]
      have := lp_gotc XB_X8_got_0_5 M x hx2 hs' (fun i => M 54 (4 + 3 * i + x)) (fun i hi => by
        have hp := paid_eq I hi
        rw [sp_paid (by omega) hx2 hd]
        rcases (show x = 0 ∨ x = 1 by omega) with rfl | rfl
        · rw [hp.1]; rfl
        · rw [hp.2]) (M 11 0).toNat 1000 0 0 (by omega) (by omega)
      rw [show ((0 : Nat) : Int) = 0 from rfl, Int.zero_add] at this
      rw [this]; rfl
    · rw [X_X9_got_53, XB_X9_got_53_e, wI_R hc, sp_in M hc i0 i1, b2_t q, ob, if_neg (by rw [w1]; decide), hx]
      have := lp_gotm XB_X9_got_53_5 M x hx2 hs (M 11 0).toNat 1000 0 0 (by omega) (by omega)
      rw [show ((0 : Nat) : Int) = 0 from rfl, Int.zero_add] at this
      rw [this]; rfl
  · refine st_same I (v := -1) (w := -1) ?_ ?_ rfl
    · rw [X_X8_got_0, XB_X8_got_0_e, sp_isCrown M hc, b2_f q, ob]; exact if_pos wI_0
    · rw [X_X9_got_53, XB_X9_got_53_e, wI_R hc, sp_in M hc i0 i1, b2_f q, ob]; exact if_pos wI_0
/-- the digest's own step, over a row of numbers -/
noncomputable def dg (f : Nat → Int) : Nat → Nat → Int → Int
  | _, 0, h => h
  | i, d + 1, h => dg f (i + 1) d (31 * h + wI (f i))
theorem dg_c {f g : Nat → Int} : ∀ (d i : Nat) (h : Int), (∀ j, i ≤ j → j < i + d → f j = g j) → dg f i d h = dg g i d h
  | 0, i, h, _ => rfl
  | d + 1, i, h, hf => by
    simp only [dg]
    rw [hf i (by omega) (by omega), dg_c d (i + 1) _ (fun j h1 h2 => hf j (by omega) (by omega))]
theorem dg_add {f : Nat → Int} : ∀ (d e i : Nat) (h : Int), dg f i (d + e) h = dg f (i + d) e (dg f i d h)
  | 0, e, i, h => by simp [dg]
  | d + 1, e, i, h => by
    rw [show d + 1 + e = (d + e) + 1 by omega]
    simp only [dg]
    rw [dg_add d e (i + 1), show i + 1 + d = i + (d + 1) by omega]
theorem dg_sh {f : Nat → Int} (z : Nat) : ∀ (d i : Nat) (h : Int), dg (fun j => f (z + j)) i d h = dg f (z + i) d h
  | 0, i, h => rfl
  | d + 1, i, h => by
    simp only [dg]
    rw [dg_sh z d (i + 1), show z + (i + 1) = z + i + 1 by omega]
theorem lp_d1c (k : Int → am_M → am_Rs) (M : am_M) (I : Inv M) : ∀ (e n : Nat) (h : Int) (v : Nat), v + e = 9 → e < n → XL_X8_digest_0_1 k n h v M = k (dg (cnt M) v e h) M
  | 0, n + 1, h, v, hv, hn => by
    rw [XL_X8_digest_0_1, XB_X8_digest_0_1, wI_of (x := (v : Int)) (by omega) (by omega), if_neg (by omega)]; rfl
  | e + 1, n + 1, h, v, hv, hn => by
    have ih := lp_d1c k M I e n (31 * h + wI (cnt M v)) (v + 1) (by omega) (by omega)
    rw [XL_X8_digest_0_1, XB_X8_digest_0_1, wI_of (x := (v : Int)) (by omega) (by omega), if_pos (by omega), sp_count_c I v (by omega), ob]
    dsimp only
    rw [show (v : Int) + 1 = ((v + 1 : Nat) : Int) from rfl, ih]; rfl
theorem lp_d1m (k : Int → am_M → am_Rs) (M : am_M) (I : Inv M) : ∀ (e n : Nat) (h : Int) (v : Nat), v + e = 9 → e < n → XL_X9_digest_53_1 k n h v M = k (dg (cnt M) v e h) M
  | 0, n + 1, h, v, hv, hn => by
    rw [XL_X9_digest_53_1, XB_X9_digest_53_1, wI_of (x := (v : Int)) (by omega) (by omega), if_neg (by omega)]; rfl
  | e + 1, n + 1, h, v, hv, hn => by
    have ih := lp_d1m k M I e n (31 * h + wI (cnt M v)) (v + 1) (by omega) (by omega)
    rw [XL_X9_digest_53_1, XB_X9_digest_53_1, wI_of (x := (v : Int)) (by omega) (by omega), if_pos (by omega), sp_count_m I v (by omega), ob]
    dsimp only
    rw [show (v : Int) + 1 = ((v + 1 : Nat) : Int) from rfl, ih]; rfl
/-- the facts of all strips in one row -/
noncomputable def fcs (M : am_M) (k : Nat) : Int := fct M (k / 6) (k % 6)
theorem lp_d6c (k : Int → Int → am_M → am_Rs) (M : am_M) (I : Inv M) (i : Nat) (hi : (i : Int) < M 11 0) : ∀ (e n : Nat) (h : Int) (w : Nat), w + e = 6 → e < n → XL_X8_digest_0_6 k n h i w M = k (dg (fcs M) (6 * i + w) e h) i M
  | 0, n + 1, h, w, hw, hn => by
    rw [XL_X8_digest_0_6, XB_X8_digest_0_6, wI_of (x := (w : Int)) (by omega) (by omega), if_neg (by omega)]; rfl
  | e + 1, n + 1, h, w, hw, hn => by
    have ih := lp_d6c k M I i hi e n (31 * h + wI (fct M i w)) (w + 1) (by omega) (by omega)
    have e1 : fcs M (6 * i + w) = fct M i w := by
      unfold fcs
      rw [show (6 * i + w) / 6 = i by omega, show (6 * i + w) % 6 = w by omega]
    rw [XL_X8_digest_0_6, XB_X8_digest_0_6, wI_of (x := (w : Int)) (by omega) (by omega), if_pos (by omega), sp_fact I hi w (by omega), ob]
    dsimp only
    rw [show (w : Int) + 1 = ((w + 1 : Nat) : Int) from rfl, ih]
    simp only [dg]
    rw [e1]; rfl
theorem lp_d4c (k : Int → am_M → am_Rs) (M : am_M) (I : Inv M) : ∀ (e n : Nat) (h : Int) (i : Nat), (i : Int) + e = M 11 0 → e < n → XL_X8_digest_0_4 k n h i M = k (dg (fcs M) (6 * i) (6 * e) h) M
  | 0, n + 1, h, i, hi, hn => by
    have h12 := I.2.2.2.1.2.2.1
    rw [XL_X8_digest_0_4, XB_X8_digest_0_4, wI_of (x := (i : Int)) (by omega) (by omega), wI_of (x := M 11 0) (by omega) (by omega), if_neg (by omega)]; rfl
  | e + 1, n + 1, h, i, hi, hn => by
    have h12 := I.2.2.2.1.2.2.1
    have ih := lp_d4c k M I e n (dg (fcs M) (6 * i) 6 h) (i + 1) (by push_cast; omega) (by omega)
    rw [XL_X8_digest_0_4, XB_X8_digest_0_4, wI_of (x := (i : Int)) (by omega) (by omega), wI_of (x := M 11 0) (by omega) (by omega), if_pos (by omega)]
    have := lp_d6c (XB_X8_digest_0_8 (XL_X8_digest_0_4 k n)) M I i (by omega) 6 1000 h 0 (by omega) (by omega)
    rw [show ((0 : Nat) : Int) = 0 from rfl, Nat.add_zero] at this
    rw [this, XB_X8_digest_0_8, show (i : Int) + 1 = ((i + 1 : Nat) : Int) from rfl, ih, show 6 * (e + 1) = 6 + 6 * e by omega, dg_add, show 6 * (i + 1) = 6 * i + 6 by omega]
theorem lp_d4m (k : Int → am_M → am_Rs) (M : am_M) (I : Inv M) : ∀ (e n : Nat) (h : Int) (v : Nat), (v : Int) + e = 6 * M 11 0 → e < n → XL_X9_digest_53_4 k n h v M = k (dg (fcs M) v e h) M
  | 0, n + 1, h, v, hv, hn => by
    have h12 := I.2.2.2.1.2.2.1
    have es := I.2.2.2.1.1
    rw [XL_X9_digest_53_4, XB_X9_digest_53_4, es, wI_of (x := (v : Int)) (by omega) (by omega), wI_of (x := 6 * M 11 0) (by omega) (by omega), if_neg (by omega)]; rfl
  | e + 1, n + 1, h, v, hv, hn => by
    have h12 := I.2.2.2.1.2.2.1
    have es := I.2.2.2.1.1
    have ih := lp_d4m k M I e n (31 * h + wI (fcs M v)) (v + 1) (by push_cast; omega) (by omega)
    have t1 : ((v : Int)).tdiv 6 = ((v / 6 : Nat) : Int) := by rw [Int.tdiv_eq_ediv_of_nonneg (by omega)]; omega
    have t2 : ((v : Int)).tmod 6 = ((v % 6 : Nat) : Int) := by rw [Int.tmod_eq_emod_of_nonneg (by omega)]; omega
    rw [XL_X9_digest_53_4, XB_X9_digest_53_4, es, wI_of (x := (v : Int)) (by omega) (by omega), wI_of (x := 6 * M 11 0) (by omega) (by omega), if_pos (by omega), t1, t2, sp_told I rfl rfl rfl (i := v / 6) (by omega) (v % 6) (by omega), ob]
    dsimp only
    rw [show (v : Int) + 1 = ((v + 1 : Nat) : Int) from rfl, show fct M (v / 6) (v % 6) = fcs M v from rfl, ih]; rfl
theorem lp_d10c (k : Int → am_M → am_Rs) (M : am_M) : ∀ (e n : Nat) (h : Int) (v : Nat), v + e = 3 → e < n → XL_X8_digest_0_10 k n h v M = k (dg (M 35) v e h) M
  | 0, n + 1, h, v, hv, hn => by
    rw [XL_X8_digest_0_10, XB_X8_digest_0_10, wI_of (x := (v : Int)) (by omega) (by omega), if_neg (by omega)]; rfl
  | e + 1, n + 1, h, v, hv, hn => by
    have ih := lp_d10c k M e n (31 * h + wI (M 35 v)) (v + 1) (by omega) (by omega)
    rw [XL_X8_digest_0_10, XB_X8_digest_0_10, wI_of (x := (v : Int)) (by omega) (by omega), if_pos (by omega), if_pos (by omega), Int.toNat_natCast, show (v : Int) + 1 = ((v + 1 : Nat) : Int) from rfl, ih]; rfl
theorem lp_d7m (k : Int → am_M → am_Rs) (M : am_M) (I : Inv M) : ∀ (e n : Nat) (h : Int) (v : Nat), v + e = 3 → e < n → XL_X9_digest_53_7 k n h ((v : Int) + 1) M = k (dg (M 35) v e h) M
  | 0, n + 1, h, v, hv, hn => by
    rw [XL_X9_digest_53_7, XB_X9_digest_53_7, wI_of (x := (v : Int) + 1) (by omega) (by omega), if_neg (by omega)]; rfl
  | e + 1, n + 1, h, v, hv, hn => by
    have ih := lp_d7m k M I e n (31 * h + wI (M 35 v)) (v + 1) (by omega) (by omega)
    rw [XL_X9_digest_53_7, XB_X9_digest_53_7, wI_of (x := (v : Int) + 1) (by omega) (by omega), if_pos (by omega), wI_of (x := 121 * ((v : Int) + 1) + 0) (by omega) (by omega), if_pos (by omega), show (121 * ((v : Int) + 1) + 0).toNat = 121 * (1 + v) by omega, (I.k35 v (by omega)).1, show (v : Int) + 1 = ((v + 1 : Nat) : Int) from rfl, ih]; rfl
/-- a shelf's digest -/
noncomputable def dgR (w : Nat) (a b : Nat → Int) : Nat → Nat → Int → Int
  | _, 0, h => h
  | r, d + 1, h => dgR w a b (r + 1) d (dg (fun j => b (w * r + j)) 0 (a r).toNat (31 * h + wI (a r)))
theorem lp_dr_1 (k : Int → Int → am_M → am_Rs) (M : am_M) (h : Sh1 M) (r : Nat) (hr : r < 6) : ∀ (e n : Nat) (g : Int) (i : Nat), (i : Int) + e = max 0 (M 2 r) → e < n → XL_X6_digestOnto_1_3 k n g r i M = k (dg (fun j => M 3 (40 * r + j)) i e g) r M
  | 0, n + 1, g, i, hi, hn => by
    have h1 := h.2.2.2 r
    rw [XL_X6_digestOnto_1_3, XB_X6_digestOnto_1_3, sp_sizeOf_1 h (by unfold iR; omega), if_pos (by omega), Int.toNat_natCast, ob]
    dsimp only
    rw [wI_of (x := (i : Int)) (by omega) (by omega), wI_of (x := M 2 r) (by omega) (by omega), if_neg (by omega)]; rfl
  | e + 1, n + 1, g, i, hi, hn => by
    have h1 := h.2.2.2 r
    have ih := lp_dr_1 k M h r hr e n (31 * g + wI (M 3 (40 * r + i))) (i + 1) (by push_cast; omega) (by omega)
    rw [XL_X6_digestOnto_1_3, XB_X6_digestOnto_1_3, sp_sizeOf_1 h (by unfold iR; omega), if_pos (by omega), Int.toNat_natCast, ob]
    dsimp only
    rw [wI_of (x := (i : Int)) (by omega) (by omega), wI_of (x := M 2 r) (by omega) (by omega), if_pos (by omega), sp_get_1 h (by omega) (by unfold iR; omega), Int.toNat_natCast, if_pos (by omega), ob]
    dsimp only
    rw [show (40 * (r : Int) + (i : Int)).toNat = 40 * r + i by omega, show (i : Int) + 1 = ((i + 1 : Nat) : Int) from rfl, ih]; rfl
theorem lp_do_1 (k : Int → am_M → am_Rs) (M : am_M) (h : Sh1 M) : ∀ (e n : Nat) (g : Int) (r : Nat), r + e = 6 → e < n → XL_X6_digestOnto_1_1 k n g r M = k (dgR 40 (M 2) (M 3) r e g) M
  | 0, n + 1, g, r, hr, hn => by
    rw [XL_X6_digestOnto_1_1, XB_X6_digestOnto_1_1, h.1, wI_of (x := (r : Int)) (by omega) (by omega), show wI 6 = 6 from rfl, if_neg (by omega)]; rfl
  | e + 1, n + 1, g, r, hr, hn => by
    have h1 := h.2.2.2 r
    have ih := lp_do_1 k M h e n (dg (fun j => M 3 (40 * r + j)) 0 (M 2 r).toNat (31 * g + wI (M 2 r))) (r + 1) (by omega) (by omega)
    rw [XL_X6_digestOnto_1_1, XB_X6_digestOnto_1_1, h.1, wI_of (x := (r : Int)) (by omega) (by omega), show wI 6 = 6 from rfl, if_pos (by omega), sp_sizeOf_1 h (by unfold iR; omega), if_pos (by omega), Int.toNat_natCast, ob]
    dsimp only
    have := lp_dr_1 (XB_X6_digestOnto_1_5 (XL_X6_digestOnto_1_1 k n)) M h r (by omega) (M 2 r).toNat 1000 (31 * g + wI (M 2 r)) 0 (by omega) (by omega)
    rw [show ((0 : Nat) : Int) = 0 from rfl] at this
    rw [this, XB_X6_digestOnto_1_5, show (r : Int) + 1 = ((r + 1 : Nat) : Int) from rfl, ih]; rfl
theorem sp_do_1 {M : am_M} (h : Sh1 M) (g : Int) : X_X6_digestOnto_1 g M = some (dgR 40 (M 2) (M 3) 0 6 g, M) := by
  rw [X_X6_digestOnto_1, XB_X6_digestOnto_1_e]
  have := lp_do_1 XB_X6_digestOnto_1_6 M h 6 1000 g 0 (by omega) (by omega)
  rw [show ((0 : Nat) : Int) = 0 from rfl] at this
  rw [this]; rfl
theorem lp_dr_4 (k : Int → Int → am_M → am_Rs) (M : am_M) (h : Sh4 M) (r : Nat) (hr : r < 4) : ∀ (e n : Nat) (g : Int) (i : Nat), (i : Int) + e = max 0 (M 5 r) → e < n → XL_X6_digestOnto_4_3 k n g r i M = k (dg (fun j => M 6 (60 * r + j)) i e g) r M
  | 0, n + 1, g, i, hi, hn => by
    have h1 := h.2.2.2 r
    rw [XL_X6_digestOnto_4_3, XB_X6_digestOnto_4_3, sp_sizeOf_4 h (by unfold iR; omega), if_pos (by omega), Int.toNat_natCast, ob]
    dsimp only
    rw [wI_of (x := (i : Int)) (by omega) (by omega), wI_of (x := M 5 r) (by omega) (by omega), if_neg (by omega)]; rfl
  | e + 1, n + 1, g, i, hi, hn => by
    have h1 := h.2.2.2 r
    have ih := lp_dr_4 k M h r hr e n (31 * g + wI (M 6 (60 * r + i))) (i + 1) (by push_cast; omega) (by omega)
    rw [XL_X6_digestOnto_4_3, XB_X6_digestOnto_4_3, sp_sizeOf_4 h (by unfold iR; omega), if_pos (by omega), Int.toNat_natCast, ob]
    dsimp only
    rw [wI_of (x := (i : Int)) (by omega) (by omega), wI_of (x := M 5 r) (by omega) (by omega), if_pos (by omega), sp_get_4 h (by omega) (by unfold iR; omega), Int.toNat_natCast, if_pos (by omega), ob]
    dsimp only
    rw [show (60 * (r : Int) + (i : Int)).toNat = 60 * r + i by omega, show (i : Int) + 1 = ((i + 1 : Nat) : Int) from rfl, ih]; rfl
theorem lp_do_4 (k : Int → am_M → am_Rs) (M : am_M) (h : Sh4 M) : ∀ (e n : Nat) (g : Int) (r : Nat), r + e = 4 → e < n → XL_X6_digestOnto_4_1 k n g r M = k (dgR 60 (M 5) (M 6) r e g) M
  | 0, n + 1, g, r, hr, hn => by
    rw [XL_X6_digestOnto_4_1, XB_X6_digestOnto_4_1, h.1, wI_of (x := (r : Int)) (by omega) (by omega), show wI 4 = 4 from rfl, if_neg (by omega)]; rfl
  | e + 1, n + 1, g, r, hr, hn => by
    have h1 := h.2.2.2 r
    have ih := lp_do_4 k M h e n (dg (fun j => M 6 (60 * r + j)) 0 (M 5 r).toNat (31 * g + wI (M 5 r))) (r + 1) (by omega) (by omega)
    rw [XL_X6_digestOnto_4_1, XB_X6_digestOnto_4_1, h.1, wI_of (x := (r : Int)) (by omega) (by omega), show wI 4 = 4 from rfl, if_pos (by omega), sp_sizeOf_4 h (by unfold iR; omega), if_pos (by omega), Int.toNat_natCast, ob]
    dsimp only
    have := lp_dr_4 (XB_X6_digestOnto_4_5 (XL_X6_digestOnto_4_1 k n)) M h r (by omega) (M 5 r).toNat 1000 (31 * g + wI (M 5 r)) 0 (by omega) (by omega)
    rw [show ((0 : Nat) : Int) = 0 from rfl] at this
    rw [this, XB_X6_digestOnto_4_5, show (r : Int) + 1 = ((r + 1 : Nat) : Int) from rfl, ih]; rfl
theorem sp_do_4 {M : am_M} (h : Sh4 M) (g : Int) : X_X6_digestOnto_4 g M = some (dgR 60 (M 5) (M 6) 0 4 g, M) := by
  rw [X_X6_digestOnto_4, XB_X6_digestOnto_4_e]
  have := lp_do_4 XB_X6_digestOnto_4_6 M h 4 1000 g 0 (by omega) (by omega)
  rw [show ((0 : Nat) : Int) = 0 from rfl] at this
  rw [this]; rfl
theorem dgR_c {w n : Nat} {a b b' : Nat → Int} : ∀ (d r : Nat) (h : Int), (∀ q i : Nat, r ≤ q → q < r + d → (i : Int) < a q → b' (w * q + i) = b (w * q + i)) → dgR w a b' r d h = dgR w a b r d h
  | 0, r, h, _ => rfl
  | d + 1, r, h, hf => by
    simp only [dgR]
    rw [dg_c (f := fun j => b' (w * r + j)) (g := fun j => b (w * r + j)) _ _ _ (fun j h1 h2 => hf r j (by omega) (by omega) (by omega)), dgR_c (n := n) d (r + 1) _ (fun q i h1 h2 h3 => hf q i (by omega) (by omega) h3)]
theorem lp_d12m (k : Int → Int → am_M → am_Rs) (M : am_M) (h : ∀ r, -1 ≤ M 57 r ∧ M 57 r ≤ 40) (r : Nat) (hr : r < 6) : ∀ (e n : Nat) (g : Int) (i : Nat), (i : Int) + e = max 0 (M 57 r) → e < n → XL_X9_digest_53_12 k n g r i M = k (dg (fun j => M 58 (40 * r + j)) i e g) r M
  | 0, n + 1, g, i, hi, hn => by
    have h1 := h r
    rw [XL_X9_digest_53_12, XB_X9_digest_53_12, wI_of (x := (r : Int)) (by omega) (by omega), if_pos (by omega), Int.toNat_natCast, wI_of (x := (i : Int)) (by omega) (by omega), wI_of (x := M 57 r) (by omega) (by omega), if_neg (by omega)]; rfl
  | e + 1, n + 1, g, i, hi, hn => by
    have h1 := h r
    have ih := lp_d12m k M h r hr e n (31 * g + wI (M 58 (40 * r + i))) (i + 1) (by push_cast; omega) (by omega)
    rw [XL_X9_digest_53_12, XB_X9_digest_53_12, wI_of (x := (r : Int)) (by omega) (by omega), if_pos (by omega), Int.toNat_natCast, wI_of (x := (i : Int)) (by omega) (by omega), wI_of (x := M 57 r) (by omega) (by omega), if_pos (by omega), wI_of (x := 40 * (r : Int) + i) (by omega) (by omega), if_pos (by omega), show (40 * (r : Int) + (i : Int)).toNat = 40 * r + i by omega, show (i : Int) + 1 = ((i + 1 : Nat) : Int) from rfl, ih]; rfl
theorem lp_d10m (k : Int → am_M → am_Rs) (M : am_M) (h : ∀ r, -1 ≤ M 57 r ∧ M 57 r ≤ 40) : ∀ (e n : Nat) (g : Int) (r : Nat), r + e = 6 → e < n → XL_X9_digest_53_10 k n g r M = k (dgR 40 (M 57) (M 58) r e g) M
  | 0, n + 1, g, r, hr, hn => by
    rw [XL_X9_digest_53_10, XB_X9_digest_53_10, wI_of (x := (r : Int)) (by omega) (by omega), if_neg (by omega)]; rfl
  | e + 1, n + 1, g, r, hr, hn => by
    have h1 := h r
    have ih := lp_d10m k M h e n (dg (fun j => M 58 (40 * r + j)) 0 (M 57 r).toNat (31 * g + wI (M 57 r))) (r + 1) (by omega) (by omega)
    rw [XL_X9_digest_53_10, XB_X9_digest_53_10, wI_of (x := (r : Int)) (by omega) (by omega), if_pos (by omega), if_pos (by omega), Int.toNat_natCast]
    have := lp_d12m (XB_X9_digest_53_14 (XL_X9_digest_53_10 k n)) M h r (by omega) (M 57 r).toNat 1000 (31 * g + wI (M 57 r)) 0 (by omega) (by omega)
    rw [show ((0 : Nat) : Int) = 0 from rfl] at this
    rw [this, XB_X9_digest_53_14, show (r : Int) + 1 = ((r + 1 : Nat) : Int) from rfl, ih]; rfl
theorem lp_d18m (k : Int → Int → am_M → am_Rs) (M : am_M) (h : ∀ r, -1 ≤ M 59 r ∧ M 59 r ≤ 60) (r : Nat) (hr : r < 4) : ∀ (e n : Nat) (g : Int) (i : Nat), (i : Int) + e = max 0 (M 59 r) → e < n → XL_X9_digest_53_18 k n g r i M = k (dg (fun j => M 60 (60 * r + j)) i e g) r M
  | 0, n + 1, g, i, hi, hn => by
    have h1 := h r
    rw [XL_X9_digest_53_18, XB_X9_digest_53_18, wI_of (x := (r : Int)) (by omega) (by omega), if_pos (by omega), Int.toNat_natCast, wI_of (x := (i : Int)) (by omega) (by omega), wI_of (x := M 59 r) (by omega) (by omega), if_neg (by omega)]; rfl
  | e + 1, n + 1, g, i, hi, hn => by
    have h1 := h r
    have ih := lp_d18m k M h r hr e n (31 * g + wI (M 60 (60 * r + i))) (i + 1) (by push_cast; omega) (by omega)
    rw [XL_X9_digest_53_18, XB_X9_digest_53_18, wI_of (x := (r : Int)) (by omega) (by omega), if_pos (by omega), Int.toNat_natCast, wI_of (x := (i : Int)) (by omega) (by omega), wI_of (x := M 59 r) (by omega) (by omega), if_pos (by omega), wI_of (x := 60 * (r : Int) + i) (by omega) (by omega), if_pos (by omega), show (60 * (r : Int) + (i : Int)).toNat = 60 * r + i by omega, show (i : Int) + 1 = ((i + 1 : Nat) : Int) from rfl, ih]; rfl
theorem lp_d16m (k : Int → am_M → am_Rs) (M : am_M) (h : ∀ r, -1 ≤ M 59 r ∧ M 59 r ≤ 60) : ∀ (e n : Nat) (g : Int) (r : Nat), r + e = 4 → e < n → XL_X9_digest_53_16 k n g r M = k (dgR 60 (M 59) (M 60) r e g) M
  | 0, n + 1, g, r, hr, hn => by
    rw [XL_X9_digest_53_16, XB_X9_digest_53_16, wI_of (x := (r : Int)) (by omega) (by omega), if_neg (by omega)]; rfl
  | e + 1, n + 1, g, r, hr, hn => by
    have h1 := h r
    have ih := lp_d16m k M h e n (dg (fun j => M 60 (60 * r + j)) 0 (M 59 r).toNat (31 * g + wI (M 59 r))) (r + 1) (by omega) (by omega)
    rw [XL_X9_digest_53_16, XB_X9_digest_53_16, wI_of (x := (r : Int)) (by omega) (by omega), if_pos (by omega), if_pos (by omega), Int.toNat_natCast]
    have := lp_d18m (XB_X9_digest_53_20 (XL_X9_digest_53_16 k n)) M h r (by omega) (M 59 r).toNat 1000 (31 * g + wI (M 59 r)) 0 (by omega) (by omega)
    rw [show ((0 : Nat) : Int) = 0 from rfl] at this
    rw [this, XB_X9_digest_53_20, show (r : Int) + 1 = ((r + 1 : Nat) : Int) from rfl, ih]; rfl
noncomputable def dgA (M : am_M) : Int := dg (M 35) 0 3 (dg (fcs M) 0 (6 * (M 11 0).toNat) (31 * dg (cnt M) 0 9 17 + wI (M 14 1)))
theorem sp_digest_c {M : am_M} (I : Inv M) : X_X8_digest_0 M = some (dgR 60 (M 5) (M 6) 0 4 (dgR 40 (M 2) (M 3) 0 6 (dgA M)), M) := by
  have hs : 0 ≤ M 11 0 ∧ M 11 0 ≤ 12 := ⟨I.g11.1, I.g11.2.1⟩
  rw [X_X8_digest_0, XB_X8_digest_0_e]
  have a1 := lp_d1c (XB_X8_digest_0_3 (XL_X8_digest_0_4 (XB_X8_digest_0_9 (XL_X8_digest_0_10 (XB_X8_digest_0_12) 1000)) 1000)) M I 9 1000 17 0 (by omega) (by omega)
  rw [show ((0 : Nat) : Int) = 0 from rfl] at a1
  rw [a1, XB_X8_digest_0_3]
  have a2 := lp_d4c (XB_X8_digest_0_9 (XL_X8_digest_0_10 (XB_X8_digest_0_12) 1000)) M I (M 11 0).toNat 1000 (31 * dg (cnt M) 0 9 17 + wI (M 14 1)) 0 (by omega) (by omega)
  rw [show ((0 : Nat) : Int) = 0 from rfl, Nat.mul_zero] at a2
  rw [a2, XB_X8_digest_0_9]
  have a3 := lp_d10c XB_X8_digest_0_12 M 3 1000 (dg (fcs M) 0 (6 * (M 11 0).toNat) (31 * dg (cnt M) 0 9 17 + wI (M 14 1))) 0 (by omega) (by omega)
  rw [show ((0 : Nat) : Int) = 0 from rfl] at a3
  rw [a3, XB_X8_digest_0_12, sp_do_1 I.sh1, ob]
  dsimp only
  rw [sp_do_4 I.sh4, ob]
  rfl
theorem sp_digest_m {M : am_M} (I : Inv M) : X_X9_digest_53 M = some (dgR 60 (M 59) (M 60) 0 4 (dgR 40 (M 57) (M 58) 0 6 (dgA M)), M) := by
  have hs : 0 ≤ M 11 0 ∧ M 11 0 ≤ 12 := ⟨I.g11.1, I.g11.2.1⟩
  have o3 : M 54 1 = M 14 1 := I.2.2.2.2.1.1.2.2.1
  obtain ⟨e57, h57, -⟩ := I.2.1
  obtain ⟨e59, h59, -⟩ := I.2.2.1
  rw [X_X9_digest_53, XB_X9_digest_53_e]
  have a1 := lp_d1m (XB_X9_digest_53_3 (XL_X9_digest_53_4 (XB_X9_digest_53_6 (XL_X9_digest_53_7 (XB_X9_digest_53_9 (XL_X9_digest_53_10 (XB_X9_digest_53_15 (XL_X9_digest_53_16 (XB_X9_digest_53_21) 1000)) 1000)) 1000)) 1000)) M I 9 1000 17 0 (by omega) (by omega)
  rw [show ((0 : Nat) : Int) = 0 from rfl] at a1
  rw [a1, XB_X9_digest_53_3, o3]
  have a2 := lp_d4m (XB_X9_digest_53_6 (XL_X9_digest_53_7 (XB_X9_digest_53_9 (XL_X9_digest_53_10 (XB_X9_digest_53_15 (XL_X9_digest_53_16 (XB_X9_digest_53_21) 1000)) 1000)) 1000)) M I (6 * (M 11 0).toNat) 1000 (31 * dg (cnt M) 0 9 17 + wI (M 14 1)) 0 (by omega) (by omega)
  rw [show ((0 : Nat) : Int) = 0 from rfl] at a2
  rw [a2, XB_X9_digest_53_6]
  have a3 := lp_d7m (XB_X9_digest_53_9 (XL_X9_digest_53_10 (XB_X9_digest_53_15 (XL_X9_digest_53_16 (XB_X9_digest_53_21) 1000)) 1000)) M I 3 1000 (dg (fcs M) 0 (6 * (M 11 0).toNat) (31 * dg (cnt M) 0 9 17 + wI (M 14 1))) 0 (by omega) (by omega)
  rw [show ((0 : Nat) : Int) + 1 = 1 from rfl] at a3
  rw [a3, XB_X9_digest_53_9]
  have a4 := lp_d10m (XB_X9_digest_53_15 (XL_X9_digest_53_16 (XB_X9_digest_53_21) 1000)) M (by rw [e57]; exact h57) 6 1000 (dgA M) 0 (by omega) (by omega)
  rw [show ((0 : Nat) : Int) = 0 from rfl] at a4
  unfold dgA at a4 ⊢
  rw [a4, XB_X9_digest_53_15]
  have a5 := lp_d16m XB_X9_digest_53_21 M (by rw [e59]; exact h59) 4 1000 (dgR 40 (M 57) (M 58) 0 6 (dgA M)) 0 (by omega) (by omega)
  rw [show ((0 : Nat) : Int) = 0 from rfl] at a5
  unfold dgA at a5
  rw [a5]; rfl
theorem eq_digest {M : am_M} (I : Inv M) : StepL X_X8_digest_0 X_X9_digest_53 M := by
  obtain ⟨e57, -, -, h58⟩ := I.2.1
  obtain ⟨e59, -, -, h60⟩ := I.2.2.1
  refine ⟨_, _, M, M, sp_digest_c I, sp_digest_m I, ?_, I⟩
  rw [e57, e59, dgR_c (n := 0) (b' := M 58) (b := M 3) 6 0 _ (fun q i h1 h2 h3 => h58 q i (by omega) h3), dgR_c (n := 0) (b' := M 60) (b := M 6) 4 0 _ (fun q i h1 h2 h3 => h60 q i (by omega) h3)]
end
section
/-! Refusals: what every call answers alike before its own work begins. -/
theorem sp_isPlace_11 {M : am_M} (h : Gd11 M) {p : Int} (hp : iR p) : X_X2_isPlace_11 p M = some (b2 (0 ≤ p ∧ p ≤ M 11 0), M) := by
  have h1 := h.1
  have h2 := h.2.1
  simp only [X_X2_isPlace_11, wI_R hp, wI_of (x := M 11 0) (by omega) (by omega)]
  split
  · rw [b2_f (by omega)]
  · split
    · rw [b2_f (by omega)]
    · rw [b2_t (by omega)]
theorem sp_isPlan {n : Int} (M : am_M) (hn : iR n) : X_X8_isPlanLength n M = some (b2 (0 ≤ n ∧ n ≤ 20), M) := by
  simp only [X_X8_isPlanLength, wI_R hn]
  split
  · rw [b2_f (by omega)]
  · split
    · rw [b2_f (by omega)]
    · rw [b2_t (by omega)]
theorem sp_isChance {n : Int} (M : am_M) (hn : iR n) : X_X8_isChanceLength n M = some (b2 (0 ≤ n ∧ n ≤ 6), M) := by
  simp only [X_X8_isChanceLength, wI_R hn]
  split
  · rw [b2_f (by omega)]
  · split
    · rw [b2_f (by omega)]
    · rw [b2_t (by omega)]
theorem sp_isGame_c {n v : Int} (M : am_M) (hn : iR n) (hv : iR v) : X_X8_isGame n v M = some (b2 ((0 ≤ n ∧ n ≤ 4) ∧ 0 ≤ v ∧ v ≤ 9), M) := by
  simp only [X_X8_isGame, wI_R hn, wI_R hv]
  repeat' split
  all_goals first | rw [b2_f (by omega)] | rw [b2_t (by omega)]
theorem sp_isGame_m {n v l : Int} (M : am_M) (hn : iR n) (hv : iR v) (hl : iR l) : X_X9_isGame n v l M = some (b2 ((l ≤ n ∧ n ≤ 4) ∧ 0 ≤ v ∧ v ≤ 9), M) := by
  have i4 : iR 4 := by unfold iR; omega
  have i9 : iR 9 := by unfold iR; omega
  simp only [X_X9_isGame, wI_R hn, wI_R hv, wI_R hl, sp_in M hn hl i4, sp_in M hv i0 i9, ob, b2_w, b2_0]
  by_cases c1 : l ≤ n ∧ n ≤ 4
  · by_cases c2 : 0 ≤ v ∧ v ≤ 9
    · simp only [c1, c2, not_true_eq_false, if_false, and_self]; rfl
    · simp only [c1, c2, not_false_eq_true, not_true_eq_false, if_true, if_false, and_false]; rfl
  · simp only [c1, not_false_eq_true, if_true, false_and]; rfl
theorem i1 : iR 1 := by unfold iR; omega
theorem i2 : iR 2 := by unfold iR; omega
theorem i5 : iR 5 := by unfold iR; omega
theorem i6 : iR 6 := by unfold iR; omega
theorem i9 : iR 9 := by unfold iR; omega
theorem i20 : iR 20 := by unfold iR; omega
theorem iS : iR 2147483646 := by unfold iR; omega
theorem lc_seed {s : Int} (h : iR s) : (wI (c_lcmp s 2147483647) < 0) = (s < 2147483647) := by
  rw [lc_lt, wL_R h, show wL 2147483647 = 2147483647 from rfl]
theorem gd_mark {M : am_M} (I : Inv M) {i k : Int} (hi : iR i) (hk : iR k) (deep : (0 ≤ i ∧ i < M 11 0) → (1 ≤ k ∧ k ≤ 5) → Step (X_X8_mark_0 i k) (X_X9_mark_53 i k) M) : Step (X_X8_mark_0 i k) (X_X9_mark_53 i k) M := by
  have hG := I.g11
  have hs : 0 ≤ M 53 1 ∧ M 53 1 ≤ 12 := ⟨I.gM.1, I.gM.2.1⟩
  have es := I.2.2.2.1.1
  by_cases c0 : 0 ≤ i ∧ i < M 11 0
  · have q0 := c0
    by_cases c1 : 1 ≤ k ∧ k ≤ 5
    · have q1 := c1
      exact deep c0 c1
    · refine st_same I (v := -1) (w := -1) ?_ ?_ rfl
      · rcases (show k < 1 ∨ 5 < k by omega) with q | q <;> simp (disch := omega) only [X_X8_mark_0, sp_has_11 hG hi, b2_t c0, wI_R hk, ob, w1, n10, if_false, wI_0, if_true, if_neg, if_pos]
      · simp only [X_X9_mark_53, sp_isStrip hs hi, es, b2_t c0, wI_R hk, sp_in _ hk i1 i5, b2_f c1, ob, w1, n10, if_false, wI_0, if_true]
  · refine st_same I (v := -1) (w := -1) ?_ ?_ rfl
    · simp (disch := omega) only [X_X8_mark_0, sp_has_11 hG hi, b2_f c0, ob, w1, n10, if_false, wI_0, if_true, if_neg, if_pos]
    · simp only [X_X9_mark_53, sp_isStrip hs hi, es, b2_f c0, ob, w1, n10, if_false, wI_0, if_true]
theorem gd_day {M : am_M} (I : Inv M) {a b : Int} (ha : iR a) (hb : iR b) (deep : (0 ≤ a ∧ a ≤ 3) → (0 ≤ b ∧ b ≤ 3) → (M 11 0 ≠ 0) → Step (X_X8_day_0 a b) (X_X9_day_53 a b) M) : Step (X_X8_day_0 a b) (X_X9_day_53 a b) M := by
  have hG := I.g11
  have hs : 0 ≤ M 53 1 ∧ M 53 1 ≤ 12 := ⟨I.gM.1, I.gM.2.1⟩
  have es := I.2.2.2.1.1
  by_cases c0 : 0 ≤ a ∧ a ≤ 3
  · have q0 := c0
    by_cases c1 : 0 ≤ b ∧ b ≤ 3
    · have q1 := c1
      by_cases c2 : M 11 0 ≠ 0
      · have q2 := c2
        exact deep c0 c1 c2
      · have z : M 11 0 = 0 := Classical.not_not.mp c2
        refine st_same I (v := -4) (w := -4) ?_ ?_ rfl
        · simp (disch := omega) only [X_X8_day_0, wI_R ha, wI_R hb, sp_hasNoLand hG, b2_t z, ob, w1, n10, if_false, wI_0, if_true, if_neg, if_pos]
        · simp only [X_X9_day_53, sp_isSaid _ ha, b2_t c0, sp_isSaid _ hb, b2_t c1, es, wI_of (x := M 11 0) (by have := hG.1; omega) (by have := hG.2.1; omega), if_pos z, ob, w1, n10, if_false, wI_0, if_true]
    · refine st_same I (v := -1) (w := -1) ?_ ?_ rfl
      · rcases (show b < 0 ∨ 3 < b by omega) with q | q <;> simp (disch := omega) only [X_X8_day_0, wI_R ha, wI_R hb, ob, w1, n10, if_false, wI_0, if_true, if_neg, if_pos]
      · simp only [X_X9_day_53, sp_isSaid _ ha, b2_t c0, sp_isSaid _ hb, b2_f c1, ob, w1, n10, if_false, wI_0, if_true]
  · refine st_same I (v := -1) (w := -1) ?_ ?_ rfl
    · rcases (show a < 0 ∨ 3 < a by omega) with q | q <;> simp (disch := omega) only [X_X8_day_0, wI_R ha, ob, w1, n10, if_false, wI_0, if_true, if_neg, if_pos]
    · simp only [X_X9_day_53, sp_isSaid _ ha, b2_f c0, ob, w1, n10, if_false, wI_0, if_true]
theorem gd_keep {M : am_M} (I : Inv M) {k : Int} (hk : iR k) (deep : (0 ≤ k ∧ k ≤ 2) → (M 11 0 ≠ 0) → Step (X_X8_keep_0 k) (X_X9_keep_53 k) M) : Step (X_X8_keep_0 k) (X_X9_keep_53 k) M := by
  have hG := I.g11
  have hs : 0 ≤ M 53 1 ∧ M 53 1 ≤ 12 := ⟨I.gM.1, I.gM.2.1⟩
  have es := I.2.2.2.1.1
  by_cases c0 : 0 ≤ k ∧ k ≤ 2
  · have q0 := c0
    by_cases c1 : M 11 0 ≠ 0
    · have q1 := c1
      exact deep c0 c1
    · have z : M 11 0 = 0 := Classical.not_not.mp c1
      refine st_same I (v := -4) (w := -4) ?_ ?_ rfl
      · simp (disch := omega) only [X_X8_keep_0, wI_R hk, sp_hasNoLand hG, b2_t z, ob, w1, n10, if_false, wI_0, if_true, if_neg, if_pos]
      · simp only [X_X9_keep_53, wI_R hk, sp_in _ hk i0 i2, b2_t c0, es, wI_of (x := M 11 0) (by have := hG.1; omega) (by have := hG.2.1; omega), if_pos z, ob, w1, n10, if_false, wI_0, if_true]
  · refine st_same I (v := -1) (w := -1) ?_ ?_ rfl
    · rcases (show k < 0 ∨ 2 < k by omega) with q | q <;> simp (disch := omega) only [X_X8_keep_0, wI_R hk, ob, w1, n10, if_false, wI_0, if_true, if_neg, if_pos]
    · simp only [X_X9_keep_53, wI_R hk, sp_in _ hk i0 i2, b2_f c0, ob, w1, n10, if_false, wI_0, if_true]
theorem gd_moves {M : am_M} (I : Inv M) (deep : (M 11 0 ≠ 0) → Step X_X8_moves_0 X_X9_moves_53 M) : Step X_X8_moves_0 X_X9_moves_53 M := by
  have hG := I.g11
  have hs : 0 ≤ M 53 1 ∧ M 53 1 ≤ 12 := ⟨I.gM.1, I.gM.2.1⟩
  have es := I.2.2.2.1.1
  by_cases c0 : M 11 0 ≠ 0
  · have q0 := c0
    exact deep c0
  · have z : M 11 0 = 0 := Classical.not_not.mp c0
    refine st_same I (v := -4) (w := -4) ?_ ?_ rfl
    · simp (disch := omega) only [X_X8_moves_0, XB_X8_moves_0_e, sp_hasNoLand hG, b2_t z, ob, w1, n10, if_false, wI_0, if_true, if_neg, if_pos]
    · simp only [X_X9_moves_53, XB_X9_moves_53_e, es, wI_of (x := M 11 0) (by have := hG.1; omega) (by have := hG.2.1; omega), if_pos z, ob, w1, n10, if_false, wI_0, if_true]
theorem gd_judge {M : am_M} (I : Inv M) {r : Int} (hr : iR r) (deep : (0 ≤ r ∧ r < 6) → (M 11 0 ≠ 0) → (0 ≤ M 2 r.toNat) → Step (X_X8_judge_0 r) (X_X9_judge_53 r) M) : Step (X_X8_judge_0 r) (X_X9_judge_53 r) M := by
  have hG := I.g11
  have hs : 0 ≤ M 53 1 ∧ M 53 1 ≤ 12 := ⟨I.gM.1, I.gM.2.1⟩
  have es := I.2.2.2.1.1
  by_cases c0 : 0 ≤ r ∧ r < 6
  · have q0 := c0
    by_cases c1 : M 11 0 ≠ 0
    · have q1 := c1
      by_cases c2 : 0 ≤ M 2 r.toNat
      · have q2 := c2
        exact deep c0 c1 c2
      · have hb := I.2.1.2.1 r.toNat
        have e57 : ∀ N : am_M, N 57 = M 57 → N 57 r.toNat = M 2 r.toNat := fun N h => by rw [h, I.2.1.1]
        refine st_find I (f := 1) ?_ ?_
        · simp (disch := omega) only [X_X8_judge_0, sp_isNumber_1 I.sh1 hr, b2_t c0, sp_hasNoLand hG, b2_f (show ¬ M 11 0 = 0 from c1), sp_isThere_1 I.sh1 c0, b2_f c2, ob, w1, n10, if_false, wI_0, if_true, if_neg, if_pos, f_c1]
        · have es1 : (cF 1 M) 53 1 = M 11 0 := es
          have hs1 : 0 ≤ (cF 1 M) 53 1 ∧ (cF 1 M) 53 1 ≤ 12 := hs
          simp (disch := omega) only [X_X9_judge_53, sp_isRow _ hr, b2_t c0, es1, wI_of (x := M 11 0) (by have := hG.1; omega) (by have := hG.2.1; omega), if_neg (show ¬ M 11 0 = 0 from c1), wI_R hr, e57 (cF 1 M) rfl, wI_of (x := M 2 r.toNat), if_pos c0, ob, w1, n10, if_false, wI_0, if_true, if_pos, f_m1]
    · have z : M 11 0 = 0 := Classical.not_not.mp c1
      refine st_same I (v := -4) (w := -4) ?_ ?_ rfl
      · simp (disch := omega) only [X_X8_judge_0, sp_isNumber_1 I.sh1 hr, b2_t c0, sp_hasNoLand hG, b2_t z, ob, w1, n10, if_false, wI_0, if_true, if_neg, if_pos]
      · simp only [X_X9_judge_53, sp_isRow _ hr, b2_t c0, es, wI_of (x := M 11 0) (by have := hG.1; omega) (by have := hG.2.1; omega), if_pos z, ob, w1, n10, if_false, wI_0, if_true]
  · refine st_same I (v := -1) (w := -1) ?_ ?_ rfl
    · simp (disch := omega) only [X_X8_judge_0, sp_isNumber_1 I.sh1 hr, b2_f c0, ob, w1, n10, if_false, wI_0, if_true, if_neg, if_pos]
    · simp only [X_X9_judge_53, sp_isRow _ hr, b2_f c0, ob, w1, n10, if_false, wI_0, if_true]
theorem gd_rude {M : am_M} (I : Inv M) {r : Int} (hr : iR r) (deep : (0 ≤ r ∧ r < 6) → (M 11 0 ≠ 0) → (0 ≤ M 2 r.toNat) → Step (X_X8_rude_0 r) (X_X9_rude_53 r) M) : Step (X_X8_rude_0 r) (X_X9_rude_53 r) M := by
  have hG := I.g11
  have hs : 0 ≤ M 53 1 ∧ M 53 1 ≤ 12 := ⟨I.gM.1, I.gM.2.1⟩
  have es := I.2.2.2.1.1
  by_cases c0 : 0 ≤ r ∧ r < 6
  · have q0 := c0
    by_cases c1 : M 11 0 ≠ 0
    · have q1 := c1
      by_cases c2 : 0 ≤ M 2 r.toNat
      · have q2 := c2
        exact deep c0 c1 c2
      · have hb := I.2.1.2.1 r.toNat
        have e57 : ∀ N : am_M, N 57 = M 57 → N 57 r.toNat = M 2 r.toNat := fun N h => by rw [h, I.2.1.1]
        refine st_find I (f := 1) ?_ ?_
        · simp (disch := omega) only [X_X8_rude_0, sp_isNumber_1 I.sh1 hr, b2_t c0, sp_hasNoLand hG, b2_f (show ¬ M 11 0 = 0 from c1), sp_isThere_1 I.sh1 c0, b2_f c2, ob, w1, n10, if_false, wI_0, if_true, if_neg, if_pos, f_c1]
        · have es1 : (cF 1 M) 53 1 = M 11 0 := es
          have hs1 : 0 ≤ (cF 1 M) 53 1 ∧ (cF 1 M) 53 1 ≤ 12 := hs
          simp (disch := omega) only [X_X9_rude_53, sp_isRow _ hr, b2_t c0, es1, wI_of (x := M 11 0) (by have := hG.1; omega) (by have := hG.2.1; omega), if_neg (show ¬ M 11 0 = 0 from c1), wI_R hr, e57 (cF 1 M) rfl, wI_of (x := M 2 r.toNat), if_pos c0, ob, w1, n10, if_false, wI_0, if_true, if_pos, f_m1]
    · have z : M 11 0 = 0 := Classical.not_not.mp c1
      refine st_same I (v := -4) (w := -4) ?_ ?_ rfl
      · simp (disch := omega) only [X_X8_rude_0, sp_isNumber_1 I.sh1 hr, b2_t c0, sp_hasNoLand hG, b2_t z, ob, w1, n10, if_false, wI_0, if_true, if_neg, if_pos]
      · simp only [X_X9_rude_53, sp_isRow _ hr, b2_t c0, es, wI_of (x := M 11 0) (by have := hG.1; omega) (by have := hG.2.1; omega), if_pos z, ob, w1, n10, if_false, wI_0, if_true]
  · refine st_same I (v := -1) (w := -1) ?_ ?_ rfl
    · simp (disch := omega) only [X_X8_rude_0, sp_isNumber_1 I.sh1 hr, b2_f c0, ob, w1, n10, if_false, wI_0, if_true, if_neg, if_pos]
    · simp only [X_X9_rude_53, sp_isRow _ hr, b2_f c0, ob, w1, n10, if_false, wI_0, if_true]
theorem gd_books {M : am_M} (I : Inv M) {r : Int} (hr : iR r) (deep : (0 ≤ r ∧ r < 6) → (M 11 0 ≠ 0) → (0 ≤ M 2 r.toNat) → Step (X_X8_books_0 r) (X_X9_books_53 r) M) : Step (X_X8_books_0 r) (X_X9_books_53 r) M := by
  have hG := I.g11
  have hs : 0 ≤ M 53 1 ∧ M 53 1 ≤ 12 := ⟨I.gM.1, I.gM.2.1⟩
  have es := I.2.2.2.1.1
  by_cases c0 : 0 ≤ r ∧ r < 6
  · have q0 := c0
    by_cases c1 : M 11 0 ≠ 0
    · have q1 := c1
      by_cases c2 : 0 ≤ M 2 r.toNat
      · have q2 := c2
        exact deep c0 c1 c2
      · have hb := I.2.1.2.1 r.toNat
        have e57 : ∀ N : am_M, N 57 = M 57 → N 57 r.toNat = M 2 r.toNat := fun N h => by rw [h, I.2.1.1]
        refine st_find I (f := 1) ?_ ?_
        · simp (disch := omega) only [X_X8_books_0, sp_isNumber_1 I.sh1 hr, b2_t c0, sp_hasNoLand hG, b2_f (show ¬ M 11 0 = 0 from c1), sp_isThere_1 I.sh1 c0, b2_f c2, ob, w1, n10, if_false, wI_0, if_true, if_neg, if_pos, f_c1]
        · have es1 : (cF 1 M) 53 1 = M 11 0 := es
          have hs1 : 0 ≤ (cF 1 M) 53 1 ∧ (cF 1 M) 53 1 ≤ 12 := hs
          simp (disch := omega) only [X_X9_books_53, XB_X9_books_53_e, sp_isRow _ hr, b2_t c0, es1, wI_of (x := M 11 0) (by have := hG.1; omega) (by have := hG.2.1; omega), if_neg (show ¬ M 11 0 = 0 from c1), wI_R hr, e57 (cF 1 M) rfl, wI_of (x := M 2 r.toNat), if_pos c0, ob, w1, n10, if_false, wI_0, if_true, if_pos, f_m1]
    · have z : M 11 0 = 0 := Classical.not_not.mp c1
      refine st_same I (v := -4) (w := -4) ?_ ?_ rfl
      · simp (disch := omega) only [X_X8_books_0, sp_isNumber_1 I.sh1 hr, b2_t c0, sp_hasNoLand hG, b2_t z, ob, w1, n10, if_false, wI_0, if_true, if_neg, if_pos]
      · simp only [X_X9_books_53, XB_X9_books_53_e, sp_isRow _ hr, b2_t c0, es, wI_of (x := M 11 0) (by have := hG.1; omega) (by have := hG.2.1; omega), if_pos z, ob, w1, n10, if_false, wI_0, if_true]
  · refine st_same I (v := -1) (w := -1) ?_ ?_ rfl
    · simp (disch := omega) only [X_X8_books_0, sp_isNumber_1 I.sh1 hr, b2_f c0, ob, w1, n10, if_false, wI_0, if_true, if_neg, if_pos]
    · simp only [X_X9_books_53, XB_X9_books_53_e, sp_isRow _ hr, b2_f c0, ob, w1, n10, if_false, wI_0, if_true]
theorem gd_pays {M : am_M} (I : Inv M) {i r : Int} (hi : iR i) (hr : iR r) (deep : (0 ≤ i ∧ i < M 11 0) → (0 ≤ r ∧ r < 6) → (0 ≤ M 2 r.toNat) → Step (X_X8_pays_0 i r) (X_X9_pays_53 i r) M) : Step (X_X8_pays_0 i r) (X_X9_pays_53 i r) M := by
  have hG := I.g11
  have hs : 0 ≤ M 53 1 ∧ M 53 1 ≤ 12 := ⟨I.gM.1, I.gM.2.1⟩
  have es := I.2.2.2.1.1
  by_cases c0 : 0 ≤ i ∧ i < M 11 0
  · have q0 := c0
    by_cases c1 : 0 ≤ r ∧ r < 6
    · have q1 := c1
      by_cases c2 : 0 ≤ M 2 r.toNat
      · have q2 := c2
        exact deep c0 c1 c2
      · have hb := I.2.1.2.1 r.toNat
        have e57 : ∀ N : am_M, N 57 = M 57 → N 57 r.toNat = M 2 r.toNat := fun N h => by rw [h, I.2.1.1]
        refine st_find I (f := 1) ?_ ?_
        · simp (disch := omega) only [X_X8_pays_0, sp_has_11 hG hi, b2_t c0, sp_isNumber_1 I.sh1 hr, b2_t c1, sp_isThere_1 I.sh1 c1, b2_f c2, ob, w1, n10, if_false, wI_0, if_true, if_neg, if_pos, f_c1]
        · have es1 : (cF 1 M) 53 1 = M 11 0 := es
          have hs1 : 0 ≤ (cF 1 M) 53 1 ∧ (cF 1 M) 53 1 ≤ 12 := hs
          simp (disch := omega) only [X_X9_pays_53, XB_X9_pays_53_e, sp_isStrip hs1 hi, es1, b2_t c0, sp_isRow _ hr, b2_t c1, wI_R hr, e57 (cF 1 M) rfl, wI_of (x := M 2 r.toNat), if_pos c1, ob, w1, n10, if_false, wI_0, if_true, if_pos, f_m1]
    · refine st_same I (v := -1) (w := -1) ?_ ?_ rfl
      · simp (disch := omega) only [X_X8_pays_0, sp_has_11 hG hi, b2_t c0, sp_isNumber_1 I.sh1 hr, b2_f c1, ob, w1, n10, if_false, wI_0, if_true, if_neg, if_pos]
      · simp only [X_X9_pays_53, XB_X9_pays_53_e, sp_isStrip hs hi, es, b2_t c0, sp_isRow _ hr, b2_f c1, ob, w1, n10, if_false, wI_0, if_true]
  · refine st_same I (v := -1) (w := -1) ?_ ?_ rfl
    · simp (disch := omega) only [X_X8_pays_0, sp_has_11 hG hi, b2_f c0, ob, w1, n10, if_false, wI_0, if_true, if_neg, if_pos]
    · simp only [X_X9_pays_53, XB_X9_pays_53_e, sp_isStrip hs hi, es, b2_f c0, ob, w1, n10, if_false, wI_0, if_true]
theorem gd_soonest {M : am_M} (I : Inv M) {p r : Int} (hp : iR p) (hr : iR r) (deep : (0 ≤ p ∧ p ≤ M 11 0) → (0 ≤ r ∧ r < 6) → (M 11 0 ≠ 0) → Step (X_X8_soonest_0 p r) (X_X9_soonest_53 p r) M) : Step (X_X8_soonest_0 p r) (X_X9_soonest_53 p r) M := by
  have hG := I.g11
  have hs : 0 ≤ M 53 1 ∧ M 53 1 ≤ 12 := ⟨I.gM.1, I.gM.2.1⟩
  have es := I.2.2.2.1.1
  by_cases c0 : 0 ≤ p ∧ p ≤ M 11 0
  · have q0 := c0
    by_cases c1 : 0 ≤ r ∧ r < 6
    · have q1 := c1
      by_cases c2 : M 11 0 ≠ 0
      · have q2 := c2
        exact deep c0 c1 c2
      · have z : M 11 0 = 0 := Classical.not_not.mp c2
        refine st_same I (v := -4) (w := -4) ?_ ?_ rfl
        · simp (disch := omega) only [X_X8_soonest_0, sp_isPlace_11 hG hp, b2_t c0, sp_isNumber_1 I.sh1 hr, b2_t c1, sp_hasNoLand hG, b2_t z, ob, w1, n10, if_false, wI_0, if_true, if_neg, if_pos]
        · simp only [X_X9_soonest_53, XB_X9_soonest_53_e, sp_isPlace hs hp, es, b2_t c0, sp_isRow _ hr, b2_t c1, es, wI_of (x := M 11 0) (by have := hG.1; omega) (by have := hG.2.1; omega), if_pos z, ob, w1, n10, if_false, wI_0, if_true]
    · refine st_same I (v := -1) (w := -1) ?_ ?_ rfl
      · simp (disch := omega) only [X_X8_soonest_0, sp_isPlace_11 hG hp, b2_t c0, sp_isNumber_1 I.sh1 hr, b2_f c1, ob, w1, n10, if_false, wI_0, if_true, if_neg, if_pos]
      · simp only [X_X9_soonest_53, XB_X9_soonest_53_e, sp_isPlace hs hp, es, b2_t c0, sp_isRow _ hr, b2_f c1, ob, w1, n10, if_false, wI_0, if_true]
  · refine st_same I (v := -1) (w := -1) ?_ ?_ rfl
    · simp (disch := omega) only [X_X8_soonest_0, sp_isPlace_11 hG hp, b2_f c0, ob, w1, n10, if_false, wI_0, if_true, if_neg, if_pos]
    · simp only [X_X9_soonest_53, XB_X9_soonest_53_e, sp_isPlace hs hp, es, b2_f c0, ob, w1, n10, if_false, wI_0, if_true]
theorem gd_polite {M : am_M} (I : Inv M) {p n r : Int} (hp : iR p) (hn : iR n) (hr : iR r) (deep : (0 ≤ p ∧ p ≤ M 11 0) → (0 ≤ n ∧ n ≤ 20) → (0 ≤ r ∧ r < 6) → (M 11 0 ≠ 0) → Step (X_X8_polite_0 p n r) (X_X9_polite_53 p n r) M) : Step (X_X8_polite_0 p n r) (X_X9_polite_53 p n r) M := by
  have hG := I.g11
  have hs : 0 ≤ M 53 1 ∧ M 53 1 ≤ 12 := ⟨I.gM.1, I.gM.2.1⟩
  have es := I.2.2.2.1.1
  by_cases c0 : 0 ≤ p ∧ p ≤ M 11 0
  · have q0 := c0
    by_cases c1 : 0 ≤ n ∧ n ≤ 20
    · have q1 := c1
      by_cases c2 : 0 ≤ r ∧ r < 6
      · have q2 := c2
        by_cases c3 : M 11 0 ≠ 0
        · have q3 := c3
          exact deep c0 c1 c2 c3
        · have z : M 11 0 = 0 := Classical.not_not.mp c3
          refine st_same I (v := -4) (w := -4) ?_ ?_ rfl
          · simp (disch := omega) only [X_X8_polite_0, sp_isPlace_11 hG hp, b2_t c0, sp_isPlan _ hn, b2_t c1, sp_isNumber_1 I.sh1 hr, b2_t c2, sp_hasNoLand hG, b2_t z, ob, w1, n10, if_false, wI_0, if_true, if_neg, if_pos]
          · simp only [X_X9_polite_53, sp_isPlace hs hp, es, b2_t c0, wI_R hn, sp_in _ hn i0 i20, b2_t c1, sp_isRow _ hr, b2_t c2, es, wI_of (x := M 11 0) (by have := hG.1; omega) (by have := hG.2.1; omega), if_pos z, ob, w1, n10, if_false, wI_0, if_true]
      · refine st_same I (v := -1) (w := -1) ?_ ?_ rfl
        · simp (disch := omega) only [X_X8_polite_0, sp_isPlace_11 hG hp, b2_t c0, sp_isPlan _ hn, b2_t c1, sp_isNumber_1 I.sh1 hr, b2_f c2, ob, w1, n10, if_false, wI_0, if_true, if_neg, if_pos]
        · simp only [X_X9_polite_53, sp_isPlace hs hp, es, b2_t c0, wI_R hn, sp_in _ hn i0 i20, b2_t c1, sp_isRow _ hr, b2_f c2, ob, w1, n10, if_false, wI_0, if_true]
    · refine st_same I (v := -1) (w := -1) ?_ ?_ rfl
      · simp (disch := omega) only [X_X8_polite_0, sp_isPlace_11 hG hp, b2_t c0, sp_isPlan _ hn, b2_f c1, ob, w1, n10, if_false, wI_0, if_true, if_neg, if_pos]
      · simp only [X_X9_polite_53, sp_isPlace hs hp, es, b2_t c0, wI_R hn, sp_in _ hn i0 i20, b2_f c1, ob, w1, n10, if_false, wI_0, if_true]
  · refine st_same I (v := -1) (w := -1) ?_ ?_ rfl
    · simp (disch := omega) only [X_X8_polite_0, sp_isPlace_11 hG hp, b2_f c0, ob, w1, n10, if_false, wI_0, if_true, if_neg, if_pos]
    · simp only [X_X9_polite_53, sp_isPlace hs hp, es, b2_f c0, ob, w1, n10, if_false, wI_0, if_true]
theorem gd_ways {M : am_M} (I : Inv M) {p n : Int} (hp : iR p) (hn : iR n) (deep : (0 ≤ p ∧ p ≤ M 11 0) → (0 ≤ n ∧ n ≤ 20) → (M 11 0 ≠ 0) → Step (X_X8_ways_0 p n) (X_X9_ways_53 p n) M) : Step (X_X8_ways_0 p n) (X_X9_ways_53 p n) M := by
  have hG := I.g11
  have hs : 0 ≤ M 53 1 ∧ M 53 1 ≤ 12 := ⟨I.gM.1, I.gM.2.1⟩
  have es := I.2.2.2.1.1
  by_cases c0 : 0 ≤ p ∧ p ≤ M 11 0
  · have q0 := c0
    by_cases c1 : 0 ≤ n ∧ n ≤ 20
    · have q1 := c1
      by_cases c2 : M 11 0 ≠ 0
      · have q2 := c2
        exact deep c0 c1 c2
      · have z : M 11 0 = 0 := Classical.not_not.mp c2
        refine st_same I (v := -4) (w := -4) ?_ ?_ rfl
        · simp (disch := omega) only [X_X8_ways_0, sp_isPlace_11 hG hp, b2_t c0, sp_isPlan _ hn, b2_t c1, sp_hasNoLand hG, b2_t z, ob, w1, n10, if_false, wI_0, if_true, if_neg, if_pos]
        · simp only [X_X9_ways_53, sp_isPlace hs hp, es, b2_t c0, wI_R hn, sp_in _ hn i0 i20, b2_t c1, es, wI_of (x := M 11 0) (by have := hG.1; omega) (by have := hG.2.1; omega), if_pos z, ob, w1, n10, if_false, wI_0, if_true]
    · refine st_same I (v := -1) (w := -1) ?_ ?_ rfl
      · simp (disch := omega) only [X_X8_ways_0, sp_isPlace_11 hG hp, b2_t c0, sp_isPlan _ hn, b2_f c1, ob, w1, n10, if_false, wI_0, if_true, if_neg, if_pos]
      · simp only [X_X9_ways_53, sp_isPlace hs hp, es, b2_t c0, wI_R hn, sp_in _ hn i0 i20, b2_f c1, ob, w1, n10, if_false, wI_0, if_true]
  · refine st_same I (v := -1) (w := -1) ?_ ?_ rfl
    · simp (disch := omega) only [X_X8_ways_0, sp_isPlace_11 hG hp, b2_f c0, ob, w1, n10, if_false, wI_0, if_true, if_neg, if_pos]
    · simp only [X_X9_ways_53, sp_isPlace hs hp, es, b2_f c0, ob, w1, n10, if_false, wI_0, if_true]
theorem gd_reach {M : am_M} (I : Inv M) {n : Int} (hn : iR n) (deep : (0 ≤ n ∧ n ≤ 20) → (M 11 0 ≠ 0) → Step (X_X8_reach_0 n) (X_X9_reach_53 n) M) : Step (X_X8_reach_0 n) (X_X9_reach_53 n) M := by
  have hG := I.g11
  have hs : 0 ≤ M 53 1 ∧ M 53 1 ≤ 12 := ⟨I.gM.1, I.gM.2.1⟩
  have es := I.2.2.2.1.1
  by_cases c0 : 0 ≤ n ∧ n ≤ 20
  · have q0 := c0
    by_cases c1 : M 11 0 ≠ 0
    · have q1 := c1
      exact deep c0 c1
    · have z : M 11 0 = 0 := Classical.not_not.mp c1
      refine st_same I (v := -4) (w := -4) ?_ ?_ rfl
      · simp (disch := omega) only [X_X8_reach_0, sp_isPlan _ hn, b2_t c0, sp_hasNoLand hG, b2_t z, ob, w1, n10, if_false, wI_0, if_true, if_neg, if_pos]
      · simp only [X_X9_reach_53, wI_R hn, sp_in _ hn i0 i20, b2_t c0, es, wI_of (x := M 11 0) (by have := hG.1; omega) (by have := hG.2.1; omega), if_pos z, ob, w1, n10, if_false, wI_0, if_true]
  · refine st_same I (v := -1) (w := -1) ?_ ?_ rfl
    · simp (disch := omega) only [X_X8_reach_0, sp_isPlan _ hn, b2_f c0, ob, w1, n10, if_false, wI_0, if_true, if_neg, if_pos]
    · simp only [X_X9_reach_53, wI_R hn, sp_in _ hn i0 i20, b2_f c0, ob, w1, n10, if_false, wI_0, if_true]
theorem gd_least {M : am_M} (I : Inv M) {i n r : Int} (hi : iR i) (hn : iR n) (hr : iR r) (deep : (0 ≤ i ∧ i < M 11 0) → (0 ≤ n ∧ n ≤ 20) → (0 ≤ r ∧ r < 6) → Step (X_X8_least_0 i n r) (X_X9_least_53 i n r) M) : Step (X_X8_least_0 i n r) (X_X9_least_53 i n r) M := by
  have hG := I.g11
  have hs : 0 ≤ M 53 1 ∧ M 53 1 ≤ 12 := ⟨I.gM.1, I.gM.2.1⟩
  have es := I.2.2.2.1.1
  by_cases c0 : 0 ≤ i ∧ i < M 11 0
  · have q0 := c0
    by_cases c1 : 0 ≤ n ∧ n ≤ 20
    · have q1 := c1
      by_cases c2 : 0 ≤ r ∧ r < 6
      · have q2 := c2
        exact deep c0 c1 c2
      · refine st_same I (v := -1) (w := -1) ?_ ?_ rfl
        · simp (disch := omega) only [X_X8_least_0, sp_has_11 hG hi, b2_t c0, sp_isPlan _ hn, b2_t c1, sp_isNumber_1 I.sh1 hr, b2_f c2, ob, w1, n10, if_false, wI_0, if_true, if_neg, if_pos]
        · simp only [X_X9_least_53, sp_isStrip hs hi, es, b2_t c0, wI_R hn, sp_in _ hn i0 i20, b2_t c1, sp_isRow _ hr, b2_f c2, ob, w1, n10, if_false, wI_0, if_true]
    · refine st_same I (v := -1) (w := -1) ?_ ?_ rfl
      · simp (disch := omega) only [X_X8_least_0, sp_has_11 hG hi, b2_t c0, sp_isPlan _ hn, b2_f c1, ob, w1, n10, if_false, wI_0, if_true, if_neg, if_pos]
      · simp only [X_X9_least_53, sp_isStrip hs hi, es, b2_t c0, wI_R hn, sp_in _ hn i0 i20, b2_f c1, ob, w1, n10, if_false, wI_0, if_true]
  · refine st_same I (v := -1) (w := -1) ?_ ?_ rfl
    · simp (disch := omega) only [X_X8_least_0, sp_has_11 hG hi, b2_f c0, ob, w1, n10, if_false, wI_0, if_true, if_neg, if_pos]
    · simp only [X_X9_least_53, sp_isStrip hs hi, es, b2_f c0, ob, w1, n10, if_false, wI_0, if_true]
theorem gd_most {M : am_M} (I : Inv M) {c n : Int} (hc : iR c) (hn : iR n) (deep : (0 ≤ c ∧ c ≤ 1) → (0 ≤ n ∧ n ≤ 20) → (M 11 0 ≠ 0) → Step (X_X8_most_0 c n) (X_X9_most_53 c n) M) : Step (X_X8_most_0 c n) (X_X9_most_53 c n) M := by
  have hG := I.g11
  have hs : 0 ≤ M 53 1 ∧ M 53 1 ≤ 12 := ⟨I.gM.1, I.gM.2.1⟩
  have es := I.2.2.2.1.1
  by_cases c0 : 0 ≤ c ∧ c ≤ 1
  · have q0 := c0
    by_cases c1 : 0 ≤ n ∧ n ≤ 20
    · have q1 := c1
      by_cases c2 : M 11 0 ≠ 0
      · have q2 := c2
        exact deep c0 c1 c2
      · have z : M 11 0 = 0 := Classical.not_not.mp c2
        refine st_same I (v := -4) (w := -4) ?_ ?_ rfl
        · simp (disch := omega) only [X_X8_most_0, sp_isCrown _ hc, b2_t c0, sp_isPlan _ hn, b2_t c1, sp_hasNoLand hG, b2_t z, ob, w1, n10, if_false, wI_0, if_true, if_neg, if_pos]
        · simp only [X_X9_most_53, wI_R hc, sp_in _ hc i0 i1, b2_t c0, wI_R hn, sp_in _ hn i0 i20, b2_t c1, es, wI_of (x := M 11 0) (by have := hG.1; omega) (by have := hG.2.1; omega), if_pos z, ob, w1, n10, if_false, wI_0, if_true]
    · refine st_same I (v := -1) (w := -1) ?_ ?_ rfl
      · simp (disch := omega) only [X_X8_most_0, sp_isCrown _ hc, b2_t c0, sp_isPlan _ hn, b2_f c1, ob, w1, n10, if_false, wI_0, if_true, if_neg, if_pos]
      · simp only [X_X9_most_53, wI_R hc, sp_in _ hc i0 i1, b2_t c0, wI_R hn, sp_in _ hn i0 i20, b2_f c1, ob, w1, n10, if_false, wI_0, if_true]
  · refine st_same I (v := -1) (w := -1) ?_ ?_ rfl
    · simp (disch := omega) only [X_X8_most_0, sp_isCrown _ hc, b2_f c0, ob, w1, n10, if_false, wI_0, if_true, if_neg, if_pos]
    · simp only [X_X9_most_53, wI_R hc, sp_in _ hc i0 i1, b2_f c0, ob, w1, n10, if_false, wI_0, if_true]
theorem gd_now {M : am_M} (I : Inv M) (deep : (M 11 0 ≠ 0) → Step X_X8_now_0 X_X9_now_53 M) : Step X_X8_now_0 X_X9_now_53 M := by
  have hG := I.g11
  have hs : 0 ≤ M 53 1 ∧ M 53 1 ≤ 12 := ⟨I.gM.1, I.gM.2.1⟩
  have es := I.2.2.2.1.1
  by_cases c0 : M 11 0 ≠ 0
  · have q0 := c0
    exact deep c0
  · have z : M 11 0 = 0 := Classical.not_not.mp c0
    refine st_same I (v := -4) (w := -4) ?_ ?_ rfl
    · simp (disch := omega) only [X_X8_now_0, sp_hasNoLand hG, b2_t z, ob, w1, n10, if_false, wI_0, if_true, if_neg, if_pos]
    · simp only [X_X9_now_53, XB_X9_now_53_e, es, wI_of (x := M 11 0) (by have := hG.1; omega) (by have := hG.2.1; omega), if_pos z, ob, w1, n10, if_false, wI_0, if_true]
theorem gd_odds {M : am_M} (I : Inv M) {p n : Int} (hp : iR p) (hn : iR n) (deep : (0 ≤ p ∧ p ≤ M 11 0) → (0 ≤ n ∧ n ≤ 6) → (M 11 0 ≠ 0) → Step (X_X8_odds_0 p n) (X_X9_odds_53 p n) M) : Step (X_X8_odds_0 p n) (X_X9_odds_53 p n) M := by
  have hG := I.g11
  have hs : 0 ≤ M 53 1 ∧ M 53 1 ≤ 12 := ⟨I.gM.1, I.gM.2.1⟩
  have es := I.2.2.2.1.1
  by_cases c0 : 0 ≤ p ∧ p ≤ M 11 0
  · have q0 := c0
    by_cases c1 : 0 ≤ n ∧ n ≤ 6
    · have q1 := c1
      by_cases c2 : M 11 0 ≠ 0
      · have q2 := c2
        exact deep c0 c1 c2
      · have z : M 11 0 = 0 := Classical.not_not.mp c2
        refine st_same I (v := -4) (w := -4) ?_ ?_ rfl
        · simp (disch := omega) only [X_X8_odds_0, sp_isPlace_11 hG hp, b2_t c0, sp_isChance _ hn, b2_t c1, sp_hasNoLand hG, b2_t z, ob, w1, n10, if_false, wI_0, if_true, if_neg, if_pos]
        · simp only [X_X9_odds_53, sp_isPlace hs hp, es, b2_t c0, wI_R hn, sp_in _ hn i0 i6, b2_t c1, es, wI_of (x := M 11 0) (by have := hG.1; omega) (by have := hG.2.1; omega), if_pos z, ob, w1, n10, if_false, wI_0, if_true]
    · refine st_same I (v := -1) (w := -1) ?_ ?_ rfl
      · simp (disch := omega) only [X_X8_odds_0, sp_isPlace_11 hG hp, b2_t c0, sp_isChance _ hn, b2_f c1, ob, w1, n10, if_false, wI_0, if_true, if_neg, if_pos]
      · simp only [X_X9_odds_53, sp_isPlace hs hp, es, b2_t c0, wI_R hn, sp_in _ hn i0 i6, b2_f c1, ob, w1, n10, if_false, wI_0, if_true]
  · refine st_same I (v := -1) (w := -1) ?_ ?_ rfl
    · simp (disch := omega) only [X_X8_odds_0, sp_isPlace_11 hG hp, b2_f c0, ob, w1, n10, if_false, wI_0, if_true, if_neg, if_pos]
    · simp only [X_X9_odds_53, sp_isPlace hs hp, es, b2_f c0, ob, w1, n10, if_false, wI_0, if_true]
theorem gd_met {M : am_M} (I : Inv M) {p n : Int} (hp : iR p) (hn : iR n) (deep : (0 ≤ p ∧ p ≤ M 11 0) → (0 ≤ n ∧ n ≤ 6) → (M 11 0 ≠ 0) → Step (X_X8_met_0 p n) (X_X9_met_53 p n) M) : Step (X_X8_met_0 p n) (X_X9_met_53 p n) M := by
  have hG := I.g11
  have hs : 0 ≤ M 53 1 ∧ M 53 1 ≤ 12 := ⟨I.gM.1, I.gM.2.1⟩
  have es := I.2.2.2.1.1
  by_cases c0 : 0 ≤ p ∧ p ≤ M 11 0
  · have q0 := c0
    by_cases c1 : 0 ≤ n ∧ n ≤ 6
    · have q1 := c1
      by_cases c2 : M 11 0 ≠ 0
      · have q2 := c2
        exact deep c0 c1 c2
      · have z : M 11 0 = 0 := Classical.not_not.mp c2
        refine st_same I (v := -4) (w := -4) ?_ ?_ rfl
        · simp (disch := omega) only [X_X8_met_0, sp_isPlace_11 hG hp, b2_t c0, sp_isChance _ hn, b2_t c1, sp_hasNoLand hG, b2_t z, ob, w1, n10, if_false, wI_0, if_true, if_neg, if_pos]
        · simp only [X_X9_met_53, sp_isPlace hs hp, es, b2_t c0, wI_R hn, sp_in _ hn i0 i6, b2_t c1, es, wI_of (x := M 11 0) (by have := hG.1; omega) (by have := hG.2.1; omega), if_pos z, ob, w1, n10, if_false, wI_0, if_true]
    · refine st_same I (v := -1) (w := -1) ?_ ?_ rfl
      · simp (disch := omega) only [X_X8_met_0, sp_isPlace_11 hG hp, b2_t c0, sp_isChance _ hn, b2_f c1, ob, w1, n10, if_false, wI_0, if_true, if_neg, if_pos]
      · simp only [X_X9_met_53, sp_isPlace hs hp, es, b2_t c0, wI_R hn, sp_in _ hn i0 i6, b2_f c1, ob, w1, n10, if_false, wI_0, if_true]
  · refine st_same I (v := -1) (w := -1) ?_ ?_ rfl
    · simp (disch := omega) only [X_X8_met_0, sp_isPlace_11 hG hp, b2_f c0, ob, w1, n10, if_false, wI_0, if_true, if_neg, if_pos]
    · simp only [X_X9_met_53, sp_isPlace hs hp, es, b2_f c0, ob, w1, n10, if_false, wI_0, if_true]
theorem gd_hedge {M : am_M} (I : Inv M) {i n : Int} (hi : iR i) (hn : iR n) (deep : (0 ≤ i ∧ i < M 11 0) → (0 ≤ n ∧ n ≤ 6) → Step (X_X8_hedge_0 i n) (X_X9_hedge_53 i n) M) : Step (X_X8_hedge_0 i n) (X_X9_hedge_53 i n) M := by
  have hG := I.g11
  have hs : 0 ≤ M 53 1 ∧ M 53 1 ≤ 12 := ⟨I.gM.1, I.gM.2.1⟩
  have es := I.2.2.2.1.1
  by_cases c0 : 0 ≤ i ∧ i < M 11 0
  · have q0 := c0
    by_cases c1 : 0 ≤ n ∧ n ≤ 6
    · have q1 := c1
      exact deep c0 c1
    · refine st_same I (v := -1) (w := -1) ?_ ?_ rfl
      · simp (disch := omega) only [X_X8_hedge_0, sp_has_11 hG hi, b2_t c0, sp_isChance _ hn, b2_f c1, ob, w1, n10, if_false, wI_0, if_true, if_neg, if_pos]
      · simp only [X_X9_hedge_53, sp_isStrip hs hi, es, b2_t c0, wI_R hn, sp_in _ hn i0 i6, b2_f c1, ob, w1, n10, if_false, wI_0, if_true]
  · refine st_same I (v := -1) (w := -1) ?_ ?_ rfl
    · simp (disch := omega) only [X_X8_hedge_0, sp_has_11 hG hi, b2_f c0, ob, w1, n10, if_false, wI_0, if_true, if_neg, if_pos]
    · simp only [X_X9_hedge_53, sp_isStrip hs hi, es, b2_f c0, ob, w1, n10, if_false, wI_0, if_true]
theorem gd_game {M : am_M} (I : Inv M) {n v : Int} (hn : iR n) (hv : iR v) (deep : ((0 ≤ n ∧ n ≤ 4) ∧ 0 ≤ v ∧ v ≤ 9) → (M 11 0 ≠ 0) → Step (X_X8_game_0 n v) (X_X9_game_53 n v) M) : Step (X_X8_game_0 n v) (X_X9_game_53 n v) M := by
  have hG := I.g11
  have hs : 0 ≤ M 53 1 ∧ M 53 1 ≤ 12 := ⟨I.gM.1, I.gM.2.1⟩
  have es := I.2.2.2.1.1
  by_cases c0 : (0 ≤ n ∧ n ≤ 4) ∧ 0 ≤ v ∧ v ≤ 9
  · have q0 := c0
    by_cases c1 : M 11 0 ≠ 0
    · have q1 := c1
      exact deep c0 c1
    · have z : M 11 0 = 0 := Classical.not_not.mp c1
      refine st_same I (v := -4) (w := -4) ?_ ?_ rfl
      · simp (disch := omega) only [X_X8_game_0, sp_isGame_c _ hn hv, b2_t c0, sp_hasNoLand hG, b2_t z, ob, w1, n10, if_false, wI_0, if_true, if_neg, if_pos]
      · simp only [X_X9_game_53, sp_isGame_m _ hn hv i0, b2_t c0, es, wI_of (x := M 11 0) (by have := hG.1; omega) (by have := hG.2.1; omega), if_pos z, ob, w1, n10, if_false, wI_0, if_true]
  · refine st_same I (v := -1) (w := -1) ?_ ?_ rfl
    · simp (disch := omega) only [X_X8_game_0, sp_isGame_c _ hn hv, b2_f c0, ob, w1, n10, if_false, wI_0, if_true, if_neg, if_pos]
    · simp only [X_X9_game_53, sp_isGame_m _ hn hv i0, b2_f c0, ob, w1, n10, if_false, wI_0, if_true]
theorem gd_calm {M : am_M} (I : Inv M) {n v : Int} (hn : iR n) (hv : iR v) (deep : ((0 ≤ n ∧ n ≤ 4) ∧ 0 ≤ v ∧ v ≤ 9) → (M 11 0 ≠ 0) → Step (X_X8_calm_0 n v) (X_X9_calm_53 n v) M) : Step (X_X8_calm_0 n v) (X_X9_calm_53 n v) M := by
  have hG := I.g11
  have hs : 0 ≤ M 53 1 ∧ M 53 1 ≤ 12 := ⟨I.gM.1, I.gM.2.1⟩
  have es := I.2.2.2.1.1
  by_cases c0 : (0 ≤ n ∧ n ≤ 4) ∧ 0 ≤ v ∧ v ≤ 9
  · have q0 := c0
    by_cases c1 : M 11 0 ≠ 0
    · have q1 := c1
      exact deep c0 c1
    · have z : M 11 0 = 0 := Classical.not_not.mp c1
      refine st_same I (v := -4) (w := -4) ?_ ?_ rfl
      · simp (disch := omega) only [X_X8_calm_0, sp_isGame_c _ hn hv, b2_t c0, sp_hasNoLand hG, b2_t z, ob, w1, n10, if_false, wI_0, if_true, if_neg, if_pos]
      · simp only [X_X9_calm_53, XB_X9_calm_53_e, sp_isGame_m _ hn hv i0, b2_t c0, es, wI_of (x := M 11 0) (by have := hG.1; omega) (by have := hG.2.1; omega), if_pos z, ob, w1, n10, if_false, wI_0, if_true]
  · refine st_same I (v := -1) (w := -1) ?_ ?_ rfl
    · simp (disch := omega) only [X_X8_calm_0, sp_isGame_c _ hn hv, b2_f c0, ob, w1, n10, if_false, wI_0, if_true, if_neg, if_pos]
    · simp only [X_X9_calm_53, XB_X9_calm_53_e, sp_isGame_m _ hn hv i0, b2_f c0, ob, w1, n10, if_false, wI_0, if_true]
theorem gd_kinds {M : am_M} (I : Inv M) {i : Int} (hi : iR i) (deep : (0 ≤ i ∧ i < M 11 0) → Step (X_X8_kinds_0 i) (X_X9_kinds_53 i) M) : Step (X_X8_kinds_0 i) (X_X9_kinds_53 i) M := by
  have hG := I.g11
  have hs : 0 ≤ M 53 1 ∧ M 53 1 ≤ 12 := ⟨I.gM.1, I.gM.2.1⟩
  have es := I.2.2.2.1.1
  by_cases c0 : 0 ≤ i ∧ i < M 11 0
  · have q0 := c0
    exact deep c0
  · refine st_same I (v := -1) (w := -1) ?_ ?_ rfl
    · simp (disch := omega) only [X_X8_kinds_0, sp_has_11 hG hi, b2_f c0, ob, w1, n10, if_false, wI_0, if_true, if_neg, if_pos]
    · simp only [X_X9_kinds_53, XB_X9_kinds_53_e, sp_isStrip hs hi, es, b2_f c0, ob, w1, n10, if_false, wI_0, if_true]
theorem gd_lots {M : am_M} (I : Inv M) {n s : Int} (hn : iR n) (hs : iR s) (deep : (1 ≤ n ∧ n ≤ 20) → (1 ≤ s ∧ s ≤ 2147483646) → (M 11 0 ≠ 0) → Step (X_X8_lots_0 n s) (X_X9_lots_53 n s) M) : Step (X_X8_lots_0 n s) (X_X9_lots_53 n s) M := by
  have hG := I.g11
  have hS0 : 0 ≤ M 53 1 ∧ M 53 1 ≤ 12 := ⟨I.gM.1, I.gM.2.1⟩
  have es := I.2.2.2.1.1
  by_cases c0 : 1 ≤ n ∧ n ≤ 20
  · have q0 := c0
    by_cases c1 : 1 ≤ s ∧ s ≤ 2147483646
    · have q1 := c1
      by_cases c2 : M 11 0 ≠ 0
      · have q2 := c2
        exact deep c0 c1 c2
      · have z : M 11 0 = 0 := Classical.not_not.mp c2
        refine st_same I (v := -4) (w := -4) ?_ ?_ rfl
        · simp (disch := omega) only [X_X8_lots_0, XB_X8_lots_0_e, wI_R hn, wI_R hs, lc_seed hs, sp_hasNoLand hG, b2_t z, ob, w1, n10, if_false, wI_0, if_true, if_neg, if_pos]
        · simp only [X_X9_lots_53, XB_X9_lots_53_e, wI_R hn, sp_in _ hn i1 i20, b2_t c0, wI_R hs, sp_in _ hs i1 iS, b2_t c1, es, wI_of (x := M 11 0) (by have := hG.1; omega) (by have := hG.2.1; omega), if_pos z, ob, w1, n10, if_false, wI_0, if_true]
    · refine st_same I (v := -1) (w := -1) ?_ ?_ rfl
      · rcases (show s < 1 ∨ 2147483646 < s by omega) with q | q <;> simp (disch := omega) only [X_X8_lots_0, XB_X8_lots_0_e, wI_R hn, wI_R hs, lc_seed hs, ob, w1, n10, if_false, wI_0, if_true, if_neg, if_pos]
      · simp only [X_X9_lots_53, XB_X9_lots_53_e, wI_R hn, sp_in _ hn i1 i20, b2_t c0, wI_R hs, sp_in _ hs i1 iS, b2_f c1, ob, w1, n10, if_false, wI_0, if_true]
  · refine st_same I (v := -1) (w := -1) ?_ ?_ rfl
    · rcases (show n < 1 ∨ 20 < n by omega) with q | q <;> simp (disch := omega) only [X_X8_lots_0, XB_X8_lots_0_e, wI_R hn, ob, w1, n10, if_false, wI_0, if_true, if_neg, if_pos]
    · simp only [X_X9_lots_53, XB_X9_lots_53_e, wI_R hn, sp_in _ hn i1 i20, b2_f c0, ob, w1, n10, if_false, wI_0, if_true]
theorem gd_fault {M : am_M} (I : Inv M) {t : Int} (ht : iR t) (deep : (0 ≤ t ∧ t < 4) → (0 ≤ M 5 t.toNat) → Step (X_X8_fault_0 t) (X_X9_fault_53 t) M) : Step (X_X8_fault_0 t) (X_X9_fault_53 t) M := by
  have hG := I.g11
  have hs : 0 ≤ M 53 1 ∧ M 53 1 ≤ 12 := ⟨I.gM.1, I.gM.2.1⟩
  have es := I.2.2.2.1.1
  by_cases c0 : 0 ≤ t ∧ t < 4
  · have q0 := c0
    by_cases c1 : 0 ≤ M 5 t.toNat
    · have q1 := c1
      exact deep c0 c1
    · have hb := I.2.2.1.2.1 t.toNat
      have e59 : ∀ N : am_M, N 59 = M 59 → N 59 t.toNat = M 5 t.toNat := fun N h => by rw [h, I.2.2.1.1]
      refine st_find I (f := 1) ?_ ?_
      · simp (disch := omega) only [X_X8_fault_0, sp_isNumber_4 I.sh4 ht, b2_t c0, sp_isThere_4 I.sh4 c0, b2_f c1, ob, w1, n10, if_false, wI_0, if_true, if_neg, if_pos, f_c1]
      · have es1 : (cF 1 M) 53 1 = M 11 0 := es
        have hs1 : 0 ≤ (cF 1 M) 53 1 ∧ (cF 1 M) 53 1 ≤ 12 := hs
        simp (disch := omega) only [X_X9_fault_53, sp_isText _ ht, b2_t c0, wI_R ht, e59 (cF 1 M) rfl, wI_of (x := M 5 t.toNat), if_pos c0, ob, w1, n10, if_false, wI_0, if_true, if_pos, f_m1]
  · refine st_same I (v := -1) (w := -1) ?_ ?_ rfl
    · simp (disch := omega) only [X_X8_fault_0, sp_isNumber_4 I.sh4 ht, b2_f c0, ob, w1, n10, if_false, wI_0, if_true, if_neg, if_pos]
    · simp only [X_X9_fault_53, sp_isText _ ht, b2_f c0, ob, w1, n10, if_false, wI_0, if_true]
theorem gd_land {M : am_M} (I : Inv M) {t : Int} (ht : iR t) (deep : (0 ≤ t ∧ t < 4) → (0 ≤ M 5 t.toNat) → Step (X_X8_land_0 t) (X_X9_land_53 t) M) : Step (X_X8_land_0 t) (X_X9_land_53 t) M := by
  have hG := I.g11
  have hs : 0 ≤ M 53 1 ∧ M 53 1 ≤ 12 := ⟨I.gM.1, I.gM.2.1⟩
  have es := I.2.2.2.1.1
  by_cases c0 : 0 ≤ t ∧ t < 4
  · have q0 := c0
    by_cases c1 : 0 ≤ M 5 t.toNat
    · have q1 := c1
      exact deep c0 c1
    · have hb := I.2.2.1.2.1 t.toNat
      have e59 : ∀ N : am_M, N 59 = M 59 → N 59 t.toNat = M 5 t.toNat := fun N h => by rw [h, I.2.2.1.1]
      refine st_find I (f := 1) ?_ ?_
      · simp (disch := omega) only [X_X8_land_0, sp_isNumber_4 I.sh4 ht, b2_t c0, sp_isThere_4 I.sh4 c0, b2_f c1, ob, w1, n10, if_false, wI_0, if_true, if_neg, if_pos, f_c1]
      · have es1 : (cF 1 M) 53 1 = M 11 0 := es
        have hs1 : 0 ≤ (cF 1 M) 53 1 ∧ (cF 1 M) 53 1 ≤ 12 := hs
        simp (disch := omega) only [X_X9_land_53, XB_X9_land_53_e, sp_isText _ ht, b2_t c0, wI_R ht, e59 (cF 1 M) rfl, wI_of (x := M 5 t.toNat), if_pos c0, ob, w1, n10, if_false, wI_0, if_true, if_pos, f_m1]
  · refine st_same I (v := -1) (w := -1) ?_ ?_ rfl
    · simp (disch := omega) only [X_X8_land_0, sp_isNumber_4 I.sh4 ht, b2_f c0, ob, w1, n10, if_false, wI_0, if_true, if_neg, if_pos]
    · simp only [X_X9_land_53, XB_X9_land_53_e, sp_isText _ ht, b2_f c0, ob, w1, n10, if_false, wI_0, if_true]
theorem gd_said {M : am_M} (I : Inv M) {n v : Int} (hn : iR n) (hv : iR v) (deep : ((1 ≤ n ∧ n ≤ 4) ∧ 0 ≤ v ∧ v ≤ 9) → M 11 0 ≠ 0 → Step (X_X8_said_0 n v) (X_X9_said_53 n v) M) : Step (X_X8_said_0 n v) (X_X9_said_53 n v) M := by
  have hG := I.g11
  have es := I.2.2.2.1.1
  by_cases c0 : (1 ≤ n ∧ n ≤ 4) ∧ 0 ≤ v ∧ v ≤ 9
  · have d0 : (0 ≤ n ∧ n ≤ 4) ∧ 0 ≤ v ∧ v ≤ 9 := by omega
    by_cases c1 : M 11 0 ≠ 0
    · exact deep c0 c1
    · have z : M 11 0 = 0 := Classical.not_not.mp c1
      refine st_same I (v := -4) (w := -4) ?_ ?_ rfl
      · simp (disch := omega) only [X_X8_said_0, sp_isGame_c _ hn hv, b2_t d0, wI_R hn, sp_hasNoLand hG, b2_t z, ob, w1, n10, if_false, if_neg]
      · simp only [X_X9_said_53, sp_isGame_m _ hn hv i1, b2_t c0, ob, w1, n10, if_false, es, z, wI_0, if_true]
  · refine st_same I (v := -1) (w := -1) ?_ ?_ rfl
    · by_cases d0 : (0 ≤ n ∧ n ≤ 4) ∧ 0 ≤ v ∧ v ≤ 9
      · simp (disch := omega) only [X_X8_said_0, sp_isGame_c _ hn hv, b2_t d0, wI_R hn, ob, w1, n10, if_false, if_pos]
      · simp only [X_X8_said_0, sp_isGame_c _ hn hv, b2_f d0, ob, wI_0, if_true]
    · simp only [X_X9_said_53, sp_isGame_m _ hn hv i1, b2_f c0, ob, wI_0, if_true]
theorem gd_law {M : am_M} (I : Inv M) {i d : Int} (hi : iR i) (hd : iR d) (deep : (0 ≤ i ∧ i < M 11 0) → 0 ≤ d → Step (X_X8_law_0 i d) (X_X9_law_53 i d) M) : Step (X_X8_law_0 i d) (X_X9_law_53 i d) M := by
  have hG := I.g11
  have hs : 0 ≤ M 53 1 ∧ M 53 1 ≤ 12 := ⟨I.gM.1, I.gM.2.1⟩
  have es := I.2.2.2.1.1
  by_cases c0 : 0 ≤ i ∧ i < M 11 0
  · by_cases c1 : 0 ≤ d
    · exact deep c0 c1
    · refine st_same I (v := -1) (w := -1) ?_ ?_ rfl
      · simp (disch := omega) only [X_X8_law_0, sp_has_11 hG hi, b2_t c0, ob, w1, n10, if_false, wI_R hd, if_pos]
      · simp (disch := omega) only [X_X9_law_53, sp_isStrip hs hi, es, b2_t c0, ob, w1, n10, if_false, wI_R hd, if_pos]
  · refine st_same I (v := -1) (w := -1) ?_ ?_ rfl
    · simp only [X_X8_law_0, sp_has_11 hG hi, b2_f c0, ob, wI_0, if_true]
    · simp only [X_X9_law_53, sp_isStrip hs hi, es, b2_f c0, ob, wI_0, if_true]
theorem gd_undo {M : am_M} (I : Inv M) {n : Int} (hn : iR n) (deep : (0 ≤ n ∧ n ≤ M 14 0) → Step (X_X8_undo_0 n) (X_X9_undo_53 n) M) : Step (X_X8_undo_0 n) (X_X9_undo_53 n) M := by
  have o1 : M 54 0 = M 14 0 := I.2.2.2.2.1.1.1
  have o2 := I.2.2.2.2.1.1.2.1
  have iD : iR (M 14 0) := by unfold iR; omega
  by_cases c0 : 0 ≤ n ∧ n ≤ M 14 0
  · exact deep c0
  · refine st_same I (v := -1) (w := -1) ?_ ?_ rfl
    · rcases (show n < 0 ∨ M 14 0 < n by omega) with q | q <;> simp (disch := omega) only [X_X8_undo_0, wI_R hn, wI_R iD, if_pos, if_neg]
    · simp only [X_X9_undo_53, o1, wI_R hn, wI_R iD, sp_in _ hn i0 iD, b2_f c0, ob, wI_0, if_true]
theorem gd_lain {M : am_M} (I : Inv M) {n : Int} (hn : iR n) (deep : (0 ≤ n ∧ n ≤ M 14 0) → Step (X_X8_lain_0 n) (X_X9_lain_53 n) M) : Step (X_X8_lain_0 n) (X_X9_lain_53 n) M := by
  have o1 : M 54 0 = M 14 0 := I.2.2.2.2.1.1.1
  have o2 := I.2.2.2.2.1.1.2.1
  have iD : iR (M 14 0) := by unfold iR; omega
  by_cases c0 : 0 ≤ n ∧ n ≤ M 14 0
  · exact deep c0
  · refine st_same I (v := -1) (w := -1) ?_ ?_ rfl
    · rcases (show n < 0 ∨ M 14 0 < n by omega) with q | q <;> simp (disch := omega) only [X_X8_lain_0, wI_R hn, wI_R iD, if_pos, if_neg]
    · simp only [X_X9_lain_53, o1, wI_R hn, wI_R iD, sp_in _ hn i0 iD, b2_f c0, ob, wI_0, if_true]
theorem gd_on {M : am_M} (I : Inv M) {k : Int} (hk : iR k) (deep : (0 ≤ k ∧ k ≤ 2) → 0 ≤ M 35 k.toNat → Step (X_X8_on_0 k) (X_X9_on_53 k) M) : Step (X_X8_on_0 k) (X_X9_on_53 k) M := by
  by_cases c0 : 0 ≤ k ∧ k ≤ 2
  · have hq := I.k35 k.toNat (by omega)
    by_cases c1 : 0 ≤ M 35 k.toNat
    · exact deep c0 c1
    · refine st_find I (f := 1) ?_ ?_
      · simp (disch := omega) only [X_X8_on_0, wI_R hk, wI_of (x := M 35 k.toNat), ob, if_neg, if_pos, f_c1]
      · have e1 : (cF 1 M) 54 (121 * (1 + k) + 0).toNat = M 35 k.toNat := by
          show M 54 (121 * (1 + k) + 0).toNat = _
          rw [show (121 * (1 + k) + 0).toNat = 121 * (1 + k.toNat) by omega]
          exact hq.1
        simp (disch := omega) only [X_X9_on_53, wI_R hk, sp_in _ hk i0 i2, b2_t c0, ob, w1, n10, if_false, wI_of (x := 121 * (1 + k) + 0), e1, wI_of (x := M 35 k.toNat), if_pos, f_m1]
  · refine st_same I (v := -1) (w := -1) ?_ ?_ rfl
    · rcases (show k < 0 ∨ 2 < k by omega) with q | q <;> simp (disch := omega) only [X_X8_on_0, wI_R hk, if_pos, if_neg]
    · simp only [X_X9_on_53, wI_R hk, sp_in _ hk i0 i2, b2_f c0, ob, wI_0, if_true]
end
section
/-! The fresh world. -/
theorem z_0 : M0 0 = fun j => if j = 15 then 1 else 0 := cm_row (n := 16) (by decide +kernel) (by decide +kernel) (fun j h => by (try dsimp only); repeat (first | rw [if_neg (by omega)] | rfl))
theorem z_1 : M0 1 = fun j => if j = 0 then 6 else if j = 1 then 40 else 0 := cm_row (n := 3) (by decide +kernel) (by decide +kernel) (fun j h => by (try dsimp only); repeat (first | rw [if_neg (by omega)] | rfl))
theorem z_2 : M0 2 = fun j => if j < 6 then -1 else 0 := cm_row (n := 6) (by decide +kernel) (by decide +kernel) (fun j h => by (try dsimp only); repeat (first | rw [if_neg (by omega)] | rfl))
theorem z_3 : M0 3 = fun _ => 0 := cm_row (n := 0) (by decide +kernel) (by decide +kernel) (fun _ _ => rfl)
theorem z_4 : M0 4 = fun j => if j = 0 then 4 else if j = 1 then 60 else if j = 2 then 32 else 0 := cm_row (n := 3) (by decide +kernel) (by decide +kernel) (fun j h => by (try dsimp only); repeat (first | rw [if_neg (by omega)] | rfl))
theorem z_5 : M0 5 = fun j => if j < 4 then -1 else 0 := cm_row (n := 4) (by decide +kernel) (by decide +kernel) (fun j h => by (try dsimp only); repeat (first | rw [if_neg (by omega)] | rfl))
theorem z_6 : M0 6 = fun _ => 0 := cm_row (n := 0) (by decide +kernel) (by decide +kernel) (fun _ _ => rfl)
theorem z_9 : M0 9 = fun _ => 0 := cm_row (n := 0) (by decide +kernel) (by decide +kernel) (fun _ _ => rfl)
theorem z_10 : M0 10 = fun _ => 0 := cm_row (n := 0) (by decide +kernel) (by decide +kernel) (fun _ _ => rfl)
theorem z_11 : M0 11 = fun _ => 0 := cm_row (n := 0) (by decide +kernel) (by decide +kernel) (fun _ _ => rfl)
theorem z_12 : M0 12 = fun _ => 0 := cm_row (n := 0) (by decide +kernel) (by decide +kernel) (fun _ _ => rfl)
theorem z_13 : M0 13 = fun _ => 0 := cm_row (n := 0) (by decide +kernel) (by decide +kernel) (fun _ _ => rfl)
theorem z_14 : M0 14 = fun _ => 0 := cm_row (n := 0) (by decide +kernel) (by decide +kernel) (fun _ _ => rfl)
theorem z_15 : M0 15 = fun _ => 0 := cm_row (n := 0) (by decide +kernel) (by decide +kernel) (fun _ _ => rfl)
theorem z_16 : M0 16 = fun _ => 0 := cm_row (n := 0) (by decide +kernel) (by decide +kernel) (fun _ _ => rfl)
theorem z_17 : M0 17 = fun _ => 0 := cm_row (n := 0) (by decide +kernel) (by decide +kernel) (fun _ _ => rfl)
theorem z_18 : M0 18 = fun _ => 0 := cm_row (n := 0) (by decide +kernel) (by decide +kernel) (fun _ _ => rfl)
theorem z_20 : M0 20 = fun _ => 0 := cm_row (n := 0) (by decide +kernel) (by decide +kernel) (fun _ _ => rfl)
theorem z_21 : M0 21 = fun _ => 0 := cm_row (n := 0) (by decide +kernel) (by decide +kernel) (fun _ _ => rfl)
theorem z_22 : M0 22 = fun _ => 0 := cm_row (n := 0) (by decide +kernel) (by decide +kernel) (fun _ _ => rfl)
theorem z_23 : M0 23 = fun _ => 0 := cm_row (n := 0) (by decide +kernel) (by decide +kernel) (fun _ _ => rfl)
theorem z_24 : M0 24 = fun _ => 0 := cm_row (n := 0) (by decide +kernel) (by decide +kernel) (fun _ _ => rfl)
theorem z_25 : M0 25 = fun _ => 0 := cm_row (n := 0) (by decide +kernel) (by decide +kernel) (fun _ _ => rfl)
theorem z_26 : M0 26 = fun _ => 0 := cm_row (n := 0) (by decide +kernel) (by decide +kernel) (fun _ _ => rfl)
theorem z_27 : M0 27 = fun _ => 0 := cm_row (n := 0) (by decide +kernel) (by decide +kernel) (fun _ _ => rfl)
theorem z_28 : M0 28 = fun _ => 0 := cm_row (n := 0) (by decide +kernel) (by decide +kernel) (fun _ _ => rfl)
theorem z_29 : M0 29 = fun _ => 0 := cm_row (n := 0) (by decide +kernel) (by decide +kernel) (fun _ _ => rfl)
theorem z_30 : M0 30 = fun _ => 0 := cm_row (n := 0) (by decide +kernel) (by decide +kernel) (fun _ _ => rfl)
theorem z_31 : M0 31 = fun _ => 0 := cm_row (n := 0) (by decide +kernel) (by decide +kernel) (fun _ _ => rfl)
theorem z_32 : M0 32 = fun _ => 0 := cm_row (n := 0) (by decide +kernel) (by decide +kernel) (fun _ _ => rfl)
theorem z_33 : M0 33 = fun _ => 0 := cm_row (n := 0) (by decide +kernel) (by decide +kernel) (fun _ _ => rfl)
theorem z_34 : M0 34 = fun _ => 0 := cm_row (n := 0) (by decide +kernel) (by decide +kernel) (fun _ _ => rfl)
theorem z_35 : M0 35 = fun j => if j < 3 then -1 else 0 := cm_row (n := 3) (by decide +kernel) (by decide +kernel) (fun j h => by (try dsimp only); repeat (first | rw [if_neg (by omega)] | rfl))
theorem z_52 : M0 52 = fun _ => 0 := cm_row (n := 0) (by decide +kernel) (by decide +kernel) (fun _ _ => rfl)
theorem z_53 : M0 53 = fun j => if j = 10 then 1 else 0 := cm_row (n := 31) (by decide +kernel) (by decide +kernel) (fun j h => by (try dsimp only); repeat (first | rw [if_neg (by omega)] | rfl))
theorem z_54 : M0 54 = fun j => if j = 121 then -1 else if j = 242 then -1 else if j = 363 then -1 else 0 := cm_row (n := 364) (by decide +kernel) (by decide +kernel) (fun j h => by (try dsimp only); repeat (first | rw [if_neg (by omega)] | rfl))
theorem z_55 : M0 55 = fun _ => 0 := cm_row (n := 0) (by decide +kernel) (by decide +kernel) (fun _ _ => rfl)
theorem z_56 : M0 56 = fun _ => 0 := cm_row (n := 0) (by decide +kernel) (by decide +kernel) (fun _ _ => rfl)
theorem z_57 : M0 57 = fun j => if j < 6 then -1 else 0 := cm_row (n := 6) (by decide +kernel) (by decide +kernel) (fun j h => by (try dsimp only); repeat (first | rw [if_neg (by omega)] | rfl))
theorem z_58 : M0 58 = fun _ => 0 := cm_row (n := 0) (by decide +kernel) (by decide +kernel) (fun _ _ => rfl)
theorem z_59 : M0 59 = fun j => if j < 4 then -1 else 0 := cm_row (n := 4) (by decide +kernel) (by decide +kernel) (fun j h => by (try dsimp only); repeat (first | rw [if_neg (by omega)] | rfl))
theorem z_60 : M0 60 = fun _ => 0 := cm_row (n := 0) (by decide +kernel) (by decide +kernel) (fun _ _ => rfl)
theorem z_61 : M0 61 = fun _ => 0 := cm_row (n := 0) (by decide +kernel) (by decide +kernel) (fun _ _ => rfl)
theorem DI0 {L : Nat → Int} {z : Nat} (h0 : L z = 0) (h1 : L (z + 1) = 0) (h2 : L (z + 2) = 0) (h3 : L (z + 3) = 0) (h4 : L (z + 120) = 0) : DI 0 (fun _ => 0) (fun _ => 0) (fun _ => 0) (fun _ => 0) (fun _ => 0) (fun _ => 0) (fun _ => 0) L z := by
  refine ⟨⟨h0, ⟨by decide, by decide⟩, h1, ⟨by decide, by decide⟩, h2, h3, ⟨by decide, by decide⟩, ⟨by decide, by decide⟩, fun _ => rfl⟩, ⟨fun j => by (try dsimp only); omega, fun j hj => by exfalso; (try dsimp only at hj); omega⟩, ⟨h4.symm, rfl, fun j => by (try dsimp only); omega, fun j _ => by (try dsimp only); omega, fun j hj => by exfalso; (try dsimp only at hj); omega⟩, ⟨fun j => by (try dsimp only); omega, fun t i ht hi => by exfalso; (try dsimp only at ht); omega⟩, fun i hi => by exfalso; omega⟩
theorem M0_inv : Inv M0 := by
  unfold Inv
  rw [z_0, z_1, z_2, z_3, z_4, z_5, z_6, z_9, z_10, z_11, z_12, z_13, z_14, z_15, z_16, z_17, z_18, z_20, z_21, z_22, z_23, z_24, z_25, z_26, z_27, z_28, z_29, z_30, z_31, z_32, z_33, z_34, z_35, z_52, z_53, z_54, z_55, z_56, z_57, z_58, z_59, z_60, z_61]
  refine ⟨⟨rfl, rfl, rfl, rfl, rfl, rfl⟩, ⟨rfl, fun r => ?_, fun j => i0, fun r i _ _ => rfl⟩, ⟨rfl, fun r => ?_, fun j => by (try dsimp only); omega, fun r i _ _ => rfl⟩, ⟨rfl, Or.inl rfl, by (try dsimp only); omega, fun _ => by (try dsimp only); omega, fun _ => by (try dsimp only); omega, fun _ => by (try dsimp only); omega, fun _ => by (try dsimp only); omega, fun _ _ => ⟨rfl, rfl⟩, fun _ => by (try dsimp only); omega, fun _ => by (try dsimp only); omega⟩, DI0 rfl rfl rfl rfl rfl, ⟨⟨rfl, by decide, by decide, fun h => absurd h (by decide), fun j => by (try dsimp only); omega⟩, ⟨rfl, by decide, by decide, fun h => absurd h (by decide), fun j => by (try dsimp only); omega⟩, ⟨rfl, by decide, by decide, fun h => absurd h (by decide), fun j => by (try dsimp only); omega⟩⟩, rfl, rfl, rfl, rfl, rfl⟩
  · (try dsimp only); split <;> omega
  · (try dsimp only); split <;> omega
/-- a land of the reference copied -/
theorem lp_copyLand (k : am_M → am_Rs) (a b : Nat) (ha : a + 121 ≤ 605) (hb : b + 121 ≤ 605) (hab : a + 121 ≤ b ∨ b + 121 ≤ a) : ∀ (e n : Nat) (M : am_M) (i : Nat), i + e = 121 → e < n → XL_X9_copyLand_53_1 k n a b i M = k (am_row M 54 fun j => if b + i ≤ j ∧ j < b + 121 then M 54 (a + (j - b)) else M 54 j)
  | 0, n + 1, M, i, hi, hn => by
    have e : (fun j => if b + i ≤ j ∧ j < b + 121 then M 54 (a + (j - b)) else M 54 j) = M 54 := funext fun j => if_neg (by omega)
    rw [XL_X9_copyLand_53_1, XB_X9_copyLand_53_1, wI_of (x := (i : Int)) (by omega) (by omega), if_neg (by omega), e, row_self]
  | e + 1, n + 1, M, i, hi, hn => by
    rw [XL_X9_copyLand_53_1, XB_X9_copyLand_53_1, wI_of (x := (i : Int)) (by omega) (by omega), if_pos (by omega), wI_of (x := (a : Int) + i) (by omega) (by omega), wI_of (x := (b : Int) + i) (by omega) (by omega), if_pos (by omega), if_pos (by omega), show ((a : Int) + i).toNat = a + i by omega, show ((b : Int) + i).toNat = b + i by omega, show (i : Int) + 1 = ((i + 1 : Nat) : Int) from rfl, lp_copyLand k a b ha hb hab e n _ (i + 1) (by omega) (by omega), up_row, row_row]
    congr 2
    funext j
    simp only [row_s]
    by_cases hj : b + (i + 1) ≤ j ∧ j < b + 121
    · rw [if_pos hj, if_neg (by omega), if_pos (by omega)]
    · by_cases hj2 : j = b + i
      · rw [if_neg hj, if_pos hj2, if_pos (by omega), show a + (j - b) = a + i by omega]
      · rw [if_neg hj, if_neg hj2, if_neg (by omega)]
theorem sp_copyLand {M : am_M} {a b : Nat} (ha : a + 121 ≤ 605) (hb : b + 121 ≤ 605) (hab : a + 121 ≤ b ∨ b + 121 ≤ a) : X_X9_copyLand_53 a b M = some (0, am_row M 54 fun j => if b ≤ j ∧ j < b + 121 then M 54 (a + (j - b)) else M 54 j) := by
  rw [X_X9_copyLand_53, XB_X9_copyLand_53_e]
  have := lp_copyLand XB_X9_copyLand_53_3 a b ha hb hab 121 1000 M 0 (by omega) (by omega)
  rw [show ((0 : Nat) : Int) = 0 from rfl] at this
  rw [this, XB_X9_copyLand_53_3]
  simp only [Nat.add_zero]
theorem lp_lay1 (k : Int → am_M → am_Rs) (v : Int) : ∀ (e n : Nat) (M : am_M) (i : Nat), i + e = 40 → e < n → XL_X9_layAhead_53_1 k n v i M = k v (am_row M 54 fun j => if 484 + i ≤ j ∧ j < 524 then 0 else M 54 j)
  | 0, n + 1, M, i, hi, hn => by
    have e : (fun j => if 484 + i ≤ j ∧ j < 524 then 0 else M 54 j) = M 54 := funext fun j => if_neg (by omega)
    rw [XL_X9_layAhead_53_1, XB_X9_layAhead_53_1, wI_of (x := (i : Int)) (by omega) (by omega), if_neg (by omega), e, row_self]
  | e + 1, n + 1, M, i, hi, hn => by
    rw [XL_X9_layAhead_53_1, XB_X9_layAhead_53_1, wI_of (x := (i : Int)) (by omega) (by omega), if_pos (by omega), wI_of (x := 484 + (i : Int)) (by omega) (by omega), if_pos (by omega), show (484 + (i : Int)).toNat = 484 + i by omega, show (i : Int) + 1 = ((i + 1 : Nat) : Int) from rfl, lp_lay1 k v e n _ (i + 1) (by omega) (by omega), up_row, row_row]
    congr 2
    funext j
    simp only [row_s]
    by_cases hj : 484 + (i + 1) ≤ j ∧ j < 524
    · rw [if_pos hj, if_pos (by omega)]
    · by_cases hj2 : j = 484 + i
      · rw [if_neg hj, if_pos hj2, if_pos (by omega)]
      · rw [if_neg hj, if_neg hj2, if_neg (by omega)]
end
