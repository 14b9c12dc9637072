/-! The law from its entry. -/
theorem lw_inst : ∀ q ∈ vwCl, Cond.instantiable q.1 q.2.2 ∈ lw_tbl := by decide +kernel
theorem lw_ai : Cond.arrayClass .int ∈ lw_tbl := (List.mem_filter.mp am_ac_int).1
theorem lw_al : Cond.arrayClass .long ∈ lw_tbl := (List.mem_filter.mp am_ac_long).1
theorem lw_ao : Cond.arrayOver (.object "PaceBorder$Days") ∈ lw_tbl := by decide +kernel
theorem lw_nst : ∀ q ∈ am_nst, Cond.methodLinkNest q.1 q.2.1 q.2.2.1 q.2.2.2 ∈ lw_tbl := by decide +kernel
theorem am_l_cc : am_cc 278 = code := by rfl
theorem am_l_rt : am_rt 278 = some .boolean := by decide +kernel
theorem am_l_ml : am_ml 278 = 4 := by decide +kernel
theorem am_l_fr : am_fr 278 = 10 := by decide +kernel
theorem am_l_lc : am_lc 278 = 217 := by decide +kernel
theorem am_l_y : am_y 278 = ⟨"PaceBorderLaw", "law", "([I)Z"⟩ := by decide +kernel
theorem lw_known {s : State} {args : Array Value} (hts : ∀ w ∈ lw_tbl, w.before args s = true) : ∃ (D : va_G) (ca : am_Ca), am_Kn D ca s := by
  have hk : ∀ ci : Nat, ∃ z : ClassId × (Nat → Nat), ∀ q, vwCl[ci]? = some q → u_Kn s q.1 q.2.1 q.2.2 z.1 z.2 := by
    intro ci
    cases h : vwCl[ci]? with
    | none => exact ⟨(0, fun _ => 0), fun q hq => by cases hq⟩
    | some q =>
      obtain ⟨C, T, n⟩ := q
      obtain ⟨cC, iS, hu⟩ := u_known (C := C) (T := T) (N := n) (n := n) hts (fun w hw => (List.mem_filter.mp ((am_cls ci _ h).1 w hw)).1) (hts _ (lw_inst _ (List.mem_of_getElem? h)))
      exact ⟨(cC, iS), fun q hq => by cases hq; exact hu⟩
  obtain ⟨f, hf⟩ := Classical.axiomOfChoice hk
  obtain ⟨c1, k1, p1, a1, a2, a3⟩ := Cond.arrayClass_spec (hts _ lw_ai)
  obtain ⟨c2, k2, p2, b1, b2, b3⟩ := Cond.arrayClass_spec (hts _ lw_al)
  obtain ⟨p3, c3, k3, d1, -, d2, d3, d4⟩ := Cond.arrayOver_spec (hts _ lw_ao)
  refine ⟨(fun c => (f c).1, fun c => (f c).2), (c1, c2, c3), ⟨fun c q hq => hf c q hq, fun k q hq => ?_⟩, fun q hq => va_Nw.of rfl (hts _ (lw_nst q hq)), va_AO.of (hts _ lw_ao)⟩
  match k, hq with
  | 0, hq => cases hq; exact ⟨fun N z => ⟨fun k h => (by cases h), k1, a2, p1, a3⟩, a1⟩
  | 1, hq => cases hq; exact ⟨fun N z => ⟨fun k h => (by cases h), k2, b2, p2, b3⟩, b1⟩
  | 2, hq => cases hq; exact ⟨fun N z => ⟨fun k h => (by cases h), k3, d2, p3, d3⟩, k3, p3, d2, d3, d1, d4⟩
  | k + 3, hq => simp [am_ty] at hq
theorem lw_begin {p : Program} {e : Env} {s : State} {m : MethodId} {below : List Frame} {meth : Method} {c : Code} (l : Launch) {b L : Nat} {xs : Nat → Int32} {Q : State → Prop}
    (hx : p.tables.exec = Jvm.exec) (hb : c.code = code) (hr : meth.sig.returnType = some .boolean) (hml : c.maxLocals = 4) (hown : s.vm.findClass "PaceBorderLaw" = some m.cls) (hts : ∀ w ∈ lw_tbl, w.before #[Value.ref b] s = true) (hX : va_X b L xs s s.heap) (hbl : b < s.heap.size) (hlocks : meth.locks = false) (hnm : meth.name = "law") (hL : L < 2 ^ 31) {M' : am_M}
    (hgo : LwB L (fun j => (xs j).toInt) 1 0 M0 M') (hQ : ∀ (pc : Nat) (H : Heap) (ls : Array Slot), decode code pc = .ok (.ireturn, 1) → W p l e room_1 s m #[Value.ref b] below meth c H [] 600000 7302250 Q (F0 m pc ls [.int 1])) :
    W p l e room_1 s m #[Value.ref b] below meth c s.heap [] 0 0 Q (entryFrame m ([Value.ref b] : List Value).toArray 4) := by
  obtain ⟨D, ca, hK⟩ := lw_known hts
  have hl := lv_entry ([.ref b]) (n := 4) (Nat.le_of_ble_eq_true rfl)
  rw [lg_entry_eq]
  generalize (lg_sl ([.ref b]) ++ List.replicate (4 - (lg_sl ([.ref b])).length) Slot.unset).toArray = ls at hl ⊢
  have hl : lv_has ls 4 [(0, .ref b)] := hl
  have hC : am_Cx (some (L, fun j => (xs j).toInt)) 278 p room_1 s m #[Value.ref b] meth c D ca s.heap.size b 0 0 (SH.length, am_sl SH) := by
    refine ⟨hx, hb.trans am_l_cc.symm, hr.trans am_l_rt.symm, hml.trans am_l_ml.symm, ?_, fun w hw => hts w (List.mem_filter.mp hw).1, hlocks, ?_, ?_, ?_, hK, rfl, ?_, ?_, fun q hq => ?_⟩
    · rw [am_l_y]; exact hown
    · rw [am_l_y]; exact hnm
    · rw [am_l_fr]; decide
    · rw [am_l_lc]; decide
    · decide +kernel
    · decide +kernel
    · cases hq
      refine ⟨?_, hbl, hL⟩
      have : (fun j => Int32.ofInt (xs j).toInt) = xs := funext fun j => i_of _
      show va_X b L (fun j => Int32.ofInt (xs j).toInt) s s.heap
      rw [this]; exact hX
  have hS : am_St 278 s D ca s.heap.size b 0 0 (SH.length, am_sl SH) s.heap [] ls [some (.inr (.inr none)), none, none, none] [] (cm []) := by
    refine ⟨?_, ?_, rfl, fun k q h => by simp [am_ws] at h, va_S.rf, Nat.le_refl _, Nat.zero_le _, Nat.zero_le _, by decide +kernel⟩
    · rw [am_l_ml]; exact hl
    · rw [am_l_ml]; rfl
  have h := lw_entry hgo hC hS (l := l) (e := e) (below := below) (Q := Q) (fun pc H locs ls lv hrt hS2 => ?_)
  · exact h
  · rcases hrt with ⟨x, hx2, hd, -⟩ | ⟨x, hx2, -⟩ | ⟨hx2, -⟩
    · cases hx2
      rw [am_l_cc] at hd
      exact va_forget (fun q hq => hS2.2.2.2.2.1.2.2 q hq) (W.widen (by decide +kernel) (by decide +kernel) (hQ pc H ls hd))
    · cases hx2
    · cases hx2
