/-! The law: its head, its switch, its step, its end. -/
theorem am_sw_of {x : Int} {K : Nat → Prop} : ∀ (ts : List Nat) (lo : Int), (∀ (j t : Nat), ts[j]? = some t → x = lo + j → K t) → am_sw x lo ts K
  | [], _, _ => trivial
  | a :: ts, lo, h => ⟨fun e => h 0 a rfl (by simpa using e), am_sw_of ts (lo + 1) fun j t ht e => h (j + 1) t (by simpa using ht) (by rw [e]; push_cast; omega)⟩
theorem lw_end {L : Nat} {xs : Nat → Int} {i : Int} (M : am_M) : LwB L xs 53 i M M :=
  lg_53 (And.intro rfl (And.intro (fun _ => Or.inr rfl) (And.intro rfl (And.intro rfl rfl))))
theorem lw_step {L : Nat} {xs : Nat → Int} {i : Int} {M M' : am_M} (h : LwB L xs 1 (i + 6) M M') : LwB L xs 52 i M M' :=
  lg_52 h
theorem lw_head0 {L : Nat} {xs : Nat → Int} {i : Int} (M : am_M) (hc : wI ((L : Int) - 6) < wI i) : LwB L xs 1 i M M :=
  lg_1 (And.intro (fun _ => lw_end M) (fun h => absurd hc h))
theorem lw_head1 {L : Nat} {xs : Nat → Int} {i : Int} {M M' : am_M} (hc : ¬ wI ((L : Int) - 6) < wI i) (h : LwB L xs 2 i M M') : LwB L xs 1 i M M' :=
  lg_1 (And.intro (fun q => absurd q hc) (fun _ => h))
theorem sw_a {c : Int} {j : Nat} (h : c = j) (hj : j < 48) : ¬ (c < 0 ∨ 47 < c) := by omega
theorem sw_b {c : Int} {j : Nat} (hj : j < 48) (h : c < 0 ∨ 47 < c) (e : c = 0 + j) : False := by omega
theorem sw_c {c : Int} {j k : Nat} (h : c = j) (e : c = 0 + k) : k = j := by omega
theorem lw_sw0 {L : Nat} {xs : Nat → Int} {i : Int} {M M' : am_M} (hi : 0 ≤ wI i ∧ wI i < L) (hc : wI (b_and_ (xs (wI i).toNat) 63) < 0 ∨ 47 < wI (b_and_ (xs (wI i).toNat) 63)) (h : LwB L xs 52 i M M') : LwB L xs 2 i M M' :=
  lg_2 (And.intro hi (And.intro (fun _ => h) (am_sw_of _ _ fun j t ht e => (sw_b (List.getElem?_eq_some_iff.mp ht).1 hc e).elim)))
noncomputable def lwCs : List Nat := [3, 4, 5, 6, 7, 9, 10, 11, 12, 13, 14, 15, 16, 17, 18, 19, 20, 21, 22, 23, 24, 25, 26, 27, 28, 29, 30, 31, 32, 33, 34, 35, 36, 37, 38, 39, 40, 41, 42, 43, 44, 45, 46, 47, 48, 49, 50, 51]
theorem lw_sw1 {L : Nat} {xs : Nat → Int} {i : Int} {M M' : am_M} (hi : 0 ≤ wI i ∧ wI i < L) {j b : Nat} (hb : lwCs[j]? = some b) (hc : wI (b_and_ (xs (wI i).toNat) 63) = j) (h : LwB L xs b i M M') : LwB L xs 2 i M M' :=
  lg_2 (And.intro hi (And.intro (fun q => absurd q (sw_a hc (List.getElem?_eq_some_iff.mp hb).1)) (am_sw_of lwCs _ fun k t ht e => by
    have : k = j := sw_c hc e
    subst this
    rw [hb] at ht
    cases ht
    exact h)))
theorem lw_entry {L : Nat} {xs : Nat → Int} {M' : am_M} (h : LwB L xs 1 0 M0 M') : am_At (some (L, xs)) 278 (lwTp 0) [some (.inr (.inr none)), none, none, none] [] [] (cm []) (some (.inl 1)) SH M' :=
  lg_0 (And.intro (by decide) <| And.intro (by decide) <| And.intro (by decide +kernel) <| And.intro rfl <| And.intro (Nat.le_of_ble_eq_true rfl) <| Exists.intro SH1 <| Exists.intro (cm mkU1) <| And.intro mk_1 <| And.intro ⟨by decide, by decide, by decide +kernel, by decide +kernel⟩ <|
    And.intro (by decide) <| And.intro (by decide) <| And.intro (by decide +kernel) <| And.intro rfl <| And.intro (Nat.le_of_ble_eq_true rfl) <| Exists.intro SH <| Exists.intro (cm mkU0) <| And.intro mk_0 <| And.intro ⟨by decide, by decide, by decide +kernel, by decide +kernel⟩ <| h)
theorem lc_z {x y : Int} (h : wL x = wL y) : wI (c_lcmp x y) = 0 := by unfold c_lcmp; rw [h, if_neg (Int.lt_irrefl _), if_pos rfl]; rfl
theorem dv_X8_row_0 (v1 v2 : Int) (M M' : am_M) (x : Int) (h : X_X8_row_0 v1 v2 M = some (x, M')) : am_Calls 106 [.inr (.inr (some 0)), .inl v1, .inl v2] SH M (some (.inl x)) SH M' := by
  have e := dc_X8_row_0 v1 v2 M M' x h
  rw [show am_rk 106 = 1 from by decide +kernel] at e
  exact e
theorem dv_X9_row_53 (v1 v2 : Int) (M M' : am_M) (x : Int) (h : X_X9_row_53 v1 v2 M = some (x, M')) : am_Calls 174 [.inr (.inr (some 53)), .inl v1, .inl v2] SH M (some (.inl x)) SH M' := by
  have e := dc_X9_row_53 v1 v2 M M' x h
  rw [show am_rk 174 = 1 from by decide +kernel] at e
  exact e
theorem lw_row {L : Nat} {xs : Nat → Int} {i : Int} {M M1 M2 M' : am_M} {v w : Int} (hi : ∀ k : Int, 0 ≤ k → k < 6 → 0 ≤ wI (i + k) ∧ wI (i + k) < L) (hX : X_X8_row_0 (xs (wI (i + 1)).toNat) (xs (wI (i + 2)).toNat) M = some (v, M1)) (hY : X_X9_row_53 (xs (wI (i + 1)).toNat) (xs (wI (i + 2)).toNat) M1 = some (w, M2)) (hK : LwB L xs 52 i M2 M') : LwB L xs 3 i M M' :=
  lg_3 (And.intro (hi 1 (by decide) (by decide)) <| And.intro (hi 2 (by decide) (by decide)) <| And.intro rfl <| And.intro (Nat.le_of_ble_eq_true rfl) <| Exists.intro _ <| Exists.intro _ <| And.intro (dv_X8_row_0 _ _ _ _ _ hX) <| And.intro rfl <| And.intro (hi 1 (by decide) (by decide)) <| And.intro (hi 2 (by decide) (by decide)) <| And.intro rfl <| And.intro (Nat.le_of_ble_eq_true rfl) <| Exists.intro _ <| Exists.intro _ <| And.intro (dv_X9_row_53 _ _ _ _ _ hY) <| And.intro rfl <| hK)
theorem dv_X8_lay_0 (v1 v2 v3 : Int) (M M' : am_M) (x : Int) (h : X_X8_lay_0 v1 v2 v3 M = some (x, M')) : am_Calls 107 [.inr (.inr (some 0)), .inl v1, .inl v2, .inl v3] SH M (some (.inl x)) SH M' := by
  have e := dc_X8_lay_0 v1 v2 v3 M M' x h
  rw [show am_rk 107 = 1 from by decide +kernel] at e
  exact e
theorem dv_X9_lay_53 (v1 v2 v3 : Int) (M M' : am_M) (x : Int) (h : X_X9_lay_53 v1 v2 v3 M = some (x, M')) : am_Calls 177 [.inr (.inr (some 53)), .inl v1, .inl v2, .inl v3] SH M (some (.inl x)) SH M' := by
  have e := dc_X9_lay_53 v1 v2 v3 M M' x h
  rw [show am_rk 177 = 1 from by decide +kernel] at e
  exact e
theorem lw_lay {L : Nat} {xs : Nat → Int} {i : Int} {M M1 M2 M' : am_M} {v w : Int} (hi : ∀ k : Int, 0 ≤ k → k < 6 → 0 ≤ wI (i + k) ∧ wI (i + k) < L) (hX : X_X8_lay_0 (xs (wI (i + 1)).toNat) (xs (wI (i + 2)).toNat) (xs (wI (i + 3)).toNat) M = some (v, M1)) (hY : X_X9_lay_53 (xs (wI (i + 1)).toNat) (xs (wI (i + 2)).toNat) (xs (wI (i + 3)).toNat) M1 = some (w, M2)) (hK : LwB L xs 52 i M2 M') : LwB L xs 4 i M M' :=
  lg_4 (And.intro (hi 1 (by decide) (by decide)) <| And.intro (hi 2 (by decide) (by decide)) <| And.intro (hi 3 (by decide) (by decide)) <| And.intro rfl <| And.intro (Nat.le_of_ble_eq_true rfl) <| Exists.intro _ <| Exists.intro _ <| And.intro (dv_X8_lay_0 _ _ _ _ _ _ hX) <| And.intro rfl <| And.intro (hi 1 (by decide) (by decide)) <| And.intro (hi 2 (by decide) (by decide)) <| And.intro (hi 3 (by decide) (by decide)) <| And.intro rfl <| And.intro (Nat.le_of_ble_eq_true rfl) <| Exists.intro _ <| Exists.intro _ <| And.intro (dv_X9_lay_53 _ _ _ _ _ _ hY) <| And.intro rfl <| hK)
theorem dv_X8_at_0 (v1 v2 : Int) (M M' : am_M) (x : Int) (h : X_X8_at_0 v1 v2 M = some (x, M')) : am_Calls 108 [.inr (.inr (some 0)), .inl v1, .inl v2] SH M (some (.inl x)) SH M' := by
  have e := dc_X8_at_0 v1 v2 M M' x h
  rw [show am_rk 108 = 1 from by decide +kernel] at e
  exact e
theorem dv_X9_at_53 (v1 v2 : Int) (M M' : am_M) (x : Int) (h : X_X9_at_53 v1 v2 M = some (x, M')) : am_Calls 178 [.inr (.inr (some 53)), .inl v1, .inl v2] SH M (some (.inl x)) SH M' := by
  have e := dc_X9_at_53 v1 v2 M M' x h
  rw [show am_rk 178 = 1 from by decide +kernel] at e
  exact e
theorem lw_at {L : Nat} {xs : Nat → Int} {i : Int} {M M1 M2 M' : am_M} {v w : Int} (hi : ∀ k : Int, 0 ≤ k → k < 6 → 0 ≤ wI (i + k) ∧ wI (i + k) < L) (hX : X_X8_at_0 (xs (wI (i + 1)).toNat) (xs (wI (i + 2)).toNat) M = some (v, M1)) (hY : X_X9_at_53 (xs (wI (i + 1)).toNat) (xs (wI (i + 2)).toNat) M1 = some (w, M2)) (hK : LwB L xs 52 i M2 M') : LwB L xs 5 i M M' :=
  lg_5 (And.intro (hi 1 (by decide) (by decide)) <| And.intro (hi 2 (by decide) (by decide)) <| And.intro rfl <| And.intro (Nat.le_of_ble_eq_true rfl) <| Exists.intro _ <| Exists.intro _ <| And.intro (dv_X8_at_0 _ _ _ _ _ hX) <| And.intro rfl <| And.intro (hi 1 (by decide) (by decide)) <| And.intro (hi 2 (by decide) (by decide)) <| And.intro rfl <| And.intro (Nat.le_of_ble_eq_true rfl) <| Exists.intro _ <| Exists.intro _ <| And.intro (dv_X9_at_53 _ _ _ _ _ hY) <| And.intro rfl <| hK)
theorem dv_X8_tear_0 (v1 : Int) (M M' : am_M) (x : Int) (h : X_X8_tear_0 v1 M = some (x, M')) : am_Calls 109 [.inr (.inr (some 0)), .inl v1] SH M (some (.inl x)) SH M' := by
  have e := dc_X8_tear_0 v1 M M' x h
  rw [show am_rk 109 = 1 from by decide +kernel] at e
  exact e
theorem dv_X9_tear_53 (v1 : Int) (M M' : am_M) (x : Int) (h : X_X9_tear_53 v1 M = some (x, M')) : am_Calls 179 [.inr (.inr (some 53)), .inl v1] SH M (some (.inl x)) SH M' := by
  have e := dc_X9_tear_53 v1 M M' x h
  rw [show am_rk 179 = 1 from by decide +kernel] at e
  exact e
theorem lw_tear {L : Nat} {xs : Nat → Int} {i : Int} {M M1 M2 M' : am_M} {v w : Int} (hi : ∀ k : Int, 0 ≤ k → k < 6 → 0 ≤ wI (i + k) ∧ wI (i + k) < L) (hX : X_X8_tear_0 (xs (wI (i + 1)).toNat) M = some (v, M1)) (hY : X_X9_tear_53 (xs (wI (i + 1)).toNat) M1 = some (w, M2)) (hK : LwB L xs 52 i M2 M') : LwB L xs 6 i M M' :=
  lg_6 (And.intro (hi 1 (by decide) (by decide)) <| And.intro rfl <| And.intro (Nat.le_of_ble_eq_true rfl) <| Exists.intro _ <| Exists.intro _ <| And.intro (dv_X8_tear_0 _ _ _ _ hX) <| And.intro rfl <| And.intro (hi 1 (by decide) (by decide)) <| And.intro rfl <| And.intro (Nat.le_of_ble_eq_true rfl) <| Exists.intro _ <| Exists.intro _ <| And.intro (dv_X9_tear_53 _ _ _ _ hY) <| And.intro rfl <| hK)
theorem dv_X8_copy_0 (v1 v2 v3 v4 v5 : Int) (M M' : am_M) (x : Int) (h : X_X8_copy_0 v1 v2 v3 v4 v5 M = some (x, M')) : am_Calls 110 [.inr (.inr (some 0)), .inl v1, .inl v2, .inl v3, .inl v4, .inl v5] SH M (some (.inl x)) SH M' := by
  have e := dc_X8_copy_0 v1 v2 v3 v4 v5 M M' x h
  rw [show am_rk 110 = 1 from by decide +kernel] at e
  exact e
theorem dv_X9_copy_53 (v1 v2 v3 v4 v5 : Int) (M M' : am_M) (x : Int) (h : X_X9_copy_53 v1 v2 v3 v4 v5 M = some (x, M')) : am_Calls 181 [.inr (.inr (some 53)), .inl v1, .inl v2, .inl v3, .inl v4, .inl v5] SH M (some (.inl x)) SH M' := by
  have e := dc_X9_copy_53 v1 v2 v3 v4 v5 M M' x h
  rw [show am_rk 181 = 1 from by decide +kernel] at e
  exact e
theorem lw_copy {L : Nat} {xs : Nat → Int} {i : Int} {M M1 M2 M' : am_M} {v w : Int} (hi : ∀ k : Int, 0 ≤ k → k < 6 → 0 ≤ wI (i + k) ∧ wI (i + k) < L) (hX : X_X8_copy_0 (xs (wI (i + 1)).toNat) (xs (wI (i + 2)).toNat) (xs (wI (i + 3)).toNat) (xs (wI (i + 4)).toNat) (xs (wI (i + 5)).toNat) M = some (v, M1)) (hY : X_X9_copy_53 (xs (wI (i + 1)).toNat) (xs (wI (i + 2)).toNat) (xs (wI (i + 3)).toNat) (xs (wI (i + 4)).toNat) (xs (wI (i + 5)).toNat) M1 = some (w, M2)) (hv : wI v = wI w) (hK : LwB L xs 52 i M2 M') : LwB L xs 7 i M M' :=
  lg_7 (And.intro (hi 1 (by decide) (by decide)) <| And.intro (hi 2 (by decide) (by decide)) <| And.intro (hi 3 (by decide) (by decide)) <| And.intro (hi 4 (by decide) (by decide)) <| And.intro (hi 5 (by decide) (by decide)) <| And.intro rfl <| And.intro (Nat.le_of_ble_eq_true rfl) <| Exists.intro _ <| Exists.intro _ <| And.intro (dv_X8_copy_0 _ _ _ _ _ _ _ _ hX) <| And.intro (hi 1 (by decide) (by decide)) <| And.intro (hi 2 (by decide) (by decide)) <| And.intro (hi 3 (by decide) (by decide)) <| And.intro (hi 4 (by decide) (by decide)) <| And.intro (hi 5 (by decide) (by decide)) <| And.intro rfl <| And.intro (Nat.le_of_ble_eq_true rfl) <| Exists.intro _ <| Exists.intro _ <| And.intro (dv_X9_copy_53 _ _ _ _ _ _ _ _ hY) <| And.intro (fun _ => hK) (fun q => absurd hv q))
theorem dv_X8_mean_0 (v1 : Int) (M M' : am_M) (x : Int) (h : X_X8_mean_0 v1 M = some (x, M')) : am_Calls 111 [.inr (.inr (some 0)), .inl v1] SH M (some (.inl x)) SH M' := by
  have e := dc_X8_mean_0 v1 M M' x h
  rw [show am_rk 111 = 1 from by decide +kernel] at e
  exact e
theorem dv_X9_mean_53 (v1 : Int) (M M' : am_M) (x : Int) (h : X_X9_mean_53 v1 M = some (x, M')) : am_Calls 182 [.inr (.inr (some 53)), .inl v1] SH M (some (.inl x)) SH M' := by
  have e := dc_X9_mean_53 v1 M M' x h
  rw [show am_rk 182 = 1 from by decide +kernel] at e
  exact e
theorem lw_mean {L : Nat} {xs : Nat → Int} {i : Int} {M M1 M2 M' : am_M} {v w : Int} (hi : ∀ k : Int, 0 ≤ k → k < 6 → 0 ≤ wI (i + k) ∧ wI (i + k) < L) (hX : X_X8_mean_0 (xs (wI (i + 1)).toNat) M = some (v, M1)) (hY : X_X9_mean_53 (xs (wI (i + 1)).toNat) M1 = some (w, M2)) (hK : LwB L xs 52 i M2 M') : LwB L xs 9 i M M' :=
  lg_9 (And.intro (hi 1 (by decide) (by decide)) <| And.intro rfl <| And.intro (Nat.le_of_ble_eq_true rfl) <| Exists.intro _ <| Exists.intro _ <| And.intro (dv_X8_mean_0 _ _ _ _ hX) <| And.intro rfl <| And.intro (hi 1 (by decide) (by decide)) <| And.intro rfl <| And.intro (Nat.le_of_ble_eq_true rfl) <| Exists.intro _ <| Exists.intro _ <| And.intro (dv_X9_mean_53 _ _ _ _ hY) <| And.intro rfl <| hK)
theorem dv_X8_text_0 (v1 v2 : Int) (M M' : am_M) (x : Int) (h : X_X8_text_0 v1 v2 M = some (x, M')) : am_Calls 112 [.inr (.inr (some 0)), .inl v1, .inl v2] SH M (some (.inl x)) SH M' := by
  have e := dc_X8_text_0 v1 v2 M M' x h
  rw [show am_rk 112 = 1 from by decide +kernel] at e
  exact e
theorem dv_X9_text_53 (v1 v2 : Int) (M M' : am_M) (x : Int) (h : X_X9_text_53 v1 v2 M = some (x, M')) : am_Calls 183 [.inr (.inr (some 53)), .inl v1, .inl v2] SH M (some (.inl x)) SH M' := by
  have e := dc_X9_text_53 v1 v2 M M' x h
  rw [show am_rk 183 = 1 from by decide +kernel] at e
  exact e
theorem lw_text {L : Nat} {xs : Nat → Int} {i : Int} {M M1 M2 M' : am_M} {v w : Int} (hi : ∀ k : Int, 0 ≤ k → k < 6 → 0 ≤ wI (i + k) ∧ wI (i + k) < L) (hX : X_X8_text_0 (xs (wI (i + 1)).toNat) (xs (wI (i + 2)).toNat) M = some (v, M1)) (hY : X_X9_text_53 (xs (wI (i + 1)).toNat) (xs (wI (i + 2)).toNat) M1 = some (w, M2)) (hK : LwB L xs 52 i M2 M') : LwB L xs 10 i M M' :=
  lg_10 (And.intro (hi 1 (by decide) (by decide)) <| And.intro (hi 2 (by decide) (by decide)) <| And.intro rfl <| And.intro (Nat.le_of_ble_eq_true rfl) <| Exists.intro _ <| Exists.intro _ <| And.intro (dv_X8_text_0 _ _ _ _ _ hX) <| And.intro rfl <| And.intro (hi 1 (by decide) (by decide)) <| And.intro (hi 2 (by decide) (by decide)) <| And.intro rfl <| And.intro (Nat.le_of_ble_eq_true rfl) <| Exists.intro _ <| Exists.intro _ <| And.intro (dv_X9_text_53 _ _ _ _ _ hY) <| And.intro rfl <| hK)
theorem dv_X8_put_0 (v1 v2 v3 : Int) (M M' : am_M) (x : Int) (h : X_X8_put_0 v1 v2 v3 M = some (x, M')) : am_Calls 113 [.inr (.inr (some 0)), .inl v1, .inl v2, .inl v3] SH M (some (.inl x)) SH M' := by
  have e := dc_X8_put_0 v1 v2 v3 M M' x h
  rw [show am_rk 113 = 1 from by decide +kernel] at e
  exact e
theorem dv_X9_put_53 (v1 v2 v3 : Int) (M M' : am_M) (x : Int) (h : X_X9_put_53 v1 v2 v3 M = some (x, M')) : am_Calls 184 [.inr (.inr (some 53)), .inl v1, .inl v2, .inl v3] SH M (some (.inl x)) SH M' := by
  have e := dc_X9_put_53 v1 v2 v3 M M' x h
  rw [show am_rk 184 = 1 from by decide +kernel] at e
  exact e
theorem lw_put {L : Nat} {xs : Nat → Int} {i : Int} {M M1 M2 M' : am_M} {v w : Int} (hi : ∀ k : Int, 0 ≤ k → k < 6 → 0 ≤ wI (i + k) ∧ wI (i + k) < L) (hX : X_X8_put_0 (xs (wI (i + 1)).toNat) (xs (wI (i + 2)).toNat) (xs (wI (i + 3)).toNat) M = some (v, M1)) (hY : X_X9_put_53 (xs (wI (i + 1)).toNat) (xs (wI (i + 2)).toNat) (xs (wI (i + 3)).toNat) M1 = some (w, M2)) (hK : LwB L xs 52 i M2 M') : LwB L xs 11 i M M' :=
  lg_11 (And.intro (hi 1 (by decide) (by decide)) <| And.intro (hi 2 (by decide) (by decide)) <| And.intro (hi 3 (by decide) (by decide)) <| And.intro rfl <| And.intro (Nat.le_of_ble_eq_true rfl) <| Exists.intro _ <| Exists.intro _ <| And.intro (dv_X8_put_0 _ _ _ _ _ _ hX) <| And.intro rfl <| And.intro (hi 1 (by decide) (by decide)) <| And.intro (hi 2 (by decide) (by decide)) <| And.intro (hi 3 (by decide) (by decide)) <| And.intro rfl <| And.intro (Nat.le_of_ble_eq_true rfl) <| Exists.intro _ <| Exists.intro _ <| And.intro (dv_X9_put_53 _ _ _ _ _ _ hY) <| And.intro rfl <| hK)
theorem dv_X8_fault_0 (v1 : Int) (M M' : am_M) (x : Int) (h : X_X8_fault_0 v1 M = some (x, M')) : am_Calls 114 [.inr (.inr (some 0)), .inl v1] SH M (some (.inl x)) SH M' := by
  have e := dc_X8_fault_0 v1 M M' x h
  rw [show am_rk 114 = 1 from by decide +kernel] at e
  exact e
theorem dv_X9_fault_53 (v1 : Int) (M M' : am_M) (x : Int) (h : X_X9_fault_53 v1 M = some (x, M')) : am_Calls 192 [.inr (.inr (some 53)), .inl v1] SH M (some (.inl x)) SH M' := by
  have e := dc_X9_fault_53 v1 M M' x h
  rw [show am_rk 192 = 1 from by decide +kernel] at e
  exact e
theorem lw_fault {L : Nat} {xs : Nat → Int} {i : Int} {M M1 M2 M' : am_M} {v w : Int} (hi : ∀ k : Int, 0 ≤ k → k < 6 → 0 ≤ wI (i + k) ∧ wI (i + k) < L) (hX : X_X8_fault_0 (xs (wI (i + 1)).toNat) M = some (v, M1)) (hY : X_X9_fault_53 (xs (wI (i + 1)).toNat) M1 = some (w, M2)) (hK : LwB L xs 52 i M2 M') : LwB L xs 12 i M M' :=
  lg_12 (And.intro (hi 1 (by decide) (by decide)) <| And.intro rfl <| And.intro (Nat.le_of_ble_eq_true rfl) <| Exists.intro _ <| Exists.intro _ <| And.intro (dv_X8_fault_0 _ _ _ _ hX) <| And.intro rfl <| And.intro (hi 1 (by decide) (by decide)) <| And.intro rfl <| And.intro (Nat.le_of_ble_eq_true rfl) <| Exists.intro _ <| Exists.intro _ <| And.intro (dv_X9_fault_53 _ _ _ _ hY) <| And.intro rfl <| hK)
theorem dv_X8_land_0 (v1 : Int) (M M' : am_M) (x : Int) (h : X_X8_land_0 v1 M = some (x, M')) : am_Calls 115 [.inr (.inr (some 0)), .inl v1] SH M (some (.inl x)) SH M' := by
  have e := dc_X8_land_0 v1 M M' x h
  rw [show am_rk 115 = 1 from by decide +kernel] at e
  exact e
theorem dv_X9_land_53 (v1 : Int) (M M' : am_M) (x : Int) (h : X_X9_land_53 v1 M = some (x, M')) : am_Calls 193 [.inr (.inr (some 53)), .inl v1] SH M (some (.inl x)) SH M' := by
  have e := dc_X9_land_53 v1 M M' x h
  rw [show am_rk 193 = 1 from by decide +kernel] at e
  exact e
theorem lw_land {L : Nat} {xs : Nat → Int} {i : Int} {M M1 M2 M' : am_M} {v w : Int} (hi : ∀ k : Int, 0 ≤ k → k < 6 → 0 ≤ wI (i + k) ∧ wI (i + k) < L) (hX : X_X8_land_0 (xs (wI (i + 1)).toNat) M = some (v, M1)) (hY : X_X9_land_53 (xs (wI (i + 1)).toNat) M1 = some (w, M2)) (hK : LwB L xs 52 i M2 M') : LwB L xs 13 i M M' :=
  lg_13 (And.intro (hi 1 (by decide) (by decide)) <| And.intro rfl <| And.intro (Nat.le_of_ble_eq_true rfl) <| Exists.intro _ <| Exists.intro _ <| And.intro (dv_X8_land_0 _ _ _ _ hX) <| And.intro rfl <| And.intro (hi 1 (by decide) (by decide)) <| And.intro rfl <| And.intro (Nat.le_of_ble_eq_true rfl) <| Exists.intro _ <| Exists.intro _ <| And.intro (dv_X9_land_53 _ _ _ _ hY) <| And.intro rfl <| hK)
theorem dv_X8_strip_0 (v1 v2 : Int) (M M' : am_M) (x : Int) (h : X_X8_strip_0 v1 v2 M = some (x, M')) : am_Calls 116 [.inr (.inr (some 0)), .inl v1, .inl v2] SH M (some (.inl x)) SH M' := by
  have e := dc_X8_strip_0 v1 v2 M M' x h
  rw [show am_rk 116 = 1 from by decide +kernel] at e
  exact e
theorem dv_X9_strip_53 (v1 v2 : Int) (M M' : am_M) (x : Int) (h : X_X9_strip_53 v1 v2 M = some (x, M')) : am_Calls 201 [.inr (.inr (some 53)), .inl v1, .inl v2] SH M (some (.inl x)) SH M' := by
  have e := dc_X9_strip_53 v1 v2 M M' x h
  rw [show am_rk 201 = 1 from by decide +kernel] at e
  exact e
theorem lw_strip {L : Nat} {xs : Nat → Int} {i : Int} {M M1 M2 M' : am_M} {v w : Int} (hi : ∀ k : Int, 0 ≤ k → k < 6 → 0 ≤ wI (i + k) ∧ wI (i + k) < L) (hX : X_X8_strip_0 (xs (wI (i + 1)).toNat) (xs (wI (i + 2)).toNat) M = some (v, M1)) (hY : X_X9_strip_53 (xs (wI (i + 1)).toNat) (xs (wI (i + 2)).toNat) M1 = some (w, M2)) (hK : LwB L xs 52 i M2 M') : LwB L xs 14 i M M' :=
  lg_14 (And.intro (hi 1 (by decide) (by decide)) <| And.intro (hi 2 (by decide) (by decide)) <| And.intro rfl <| And.intro (Nat.le_of_ble_eq_true rfl) <| Exists.intro _ <| Exists.intro _ <| And.intro (dv_X8_strip_0 _ _ _ _ _ hX) <| And.intro rfl <| And.intro (hi 1 (by decide) (by decide)) <| And.intro (hi 2 (by decide) (by decide)) <| And.intro rfl <| And.intro (Nat.le_of_ble_eq_true rfl) <| Exists.intro _ <| Exists.intro _ <| And.intro (dv_X9_strip_53 _ _ _ _ _ hY) <| And.intro rfl <| hK)
theorem dv_X8_mark_0 (v1 v2 : Int) (M M' : am_M) (x : Int) (h : X_X8_mark_0 v1 v2 M = some (x, M')) : am_Calls 117 [.inr (.inr (some 0)), .inl v1, .inl v2] SH M (some (.inl x)) SH M' := by
  have e := dc_X8_mark_0 v1 v2 M M' x h
  rw [show am_rk 117 = 1 from by decide +kernel] at e
  exact e
theorem dv_X9_mark_53 (v1 v2 : Int) (M M' : am_M) (x : Int) (h : X_X9_mark_53 v1 v2 M = some (x, M')) : am_Calls 205 [.inr (.inr (some 53)), .inl v1, .inl v2] SH M (some (.inl x)) SH M' := by
  have e := dc_X9_mark_53 v1 v2 M M' x h
  rw [show am_rk 205 = 1 from by decide +kernel] at e
  exact e
theorem lw_mark {L : Nat} {xs : Nat → Int} {i : Int} {M M1 M2 M' : am_M} {v w : Int} (hi : ∀ k : Int, 0 ≤ k → k < 6 → 0 ≤ wI (i + k) ∧ wI (i + k) < L) (hX : X_X8_mark_0 (xs (wI (i + 1)).toNat) (xs (wI (i + 2)).toNat) M = some (v, M1)) (hY : X_X9_mark_53 (xs (wI (i + 1)).toNat) (xs (wI (i + 2)).toNat) M1 = some (w, M2)) (hK : LwB L xs 52 i M2 M') : LwB L xs 15 i M M' :=
  lg_15 (And.intro (hi 1 (by decide) (by decide)) <| And.intro (hi 2 (by decide) (by decide)) <| And.intro rfl <| And.intro (Nat.le_of_ble_eq_true rfl) <| Exists.intro _ <| Exists.intro _ <| And.intro (dv_X8_mark_0 _ _ _ _ _ hX) <| And.intro rfl <| And.intro (hi 1 (by decide) (by decide)) <| And.intro (hi 2 (by decide) (by decide)) <| And.intro rfl <| And.intro (Nat.le_of_ble_eq_true rfl) <| Exists.intro _ <| Exists.intro _ <| And.intro (dv_X9_mark_53 _ _ _ _ _ hY) <| And.intro rfl <| hK)
theorem dv_X8_rate_0 (v1 v2 : Int) (M M' : am_M) (x : Int) (h : X_X8_rate_0 v1 v2 M = some (x, M')) : am_Calls 118 [.inr (.inr (some 0)), .inl v1, .inl v2] SH M (some (.inl x)) SH M' := by
  have e := dc_X8_rate_0 v1 v2 M M' x h
  rw [show am_rk 118 = 1 from by decide +kernel] at e
  exact e
theorem dv_X9_rate_53 (v1 v2 : Int) (M M' : am_M) (x : Int) (h : X_X9_rate_53 v1 v2 M = some (x, M')) : am_Calls 206 [.inr (.inr (some 53)), .inl v1, .inl v2] SH M (some (.inl x)) SH M' := by
  have e := dc_X9_rate_53 v1 v2 M M' x h
  rw [show am_rk 206 = 1 from by decide +kernel] at e
  exact e
theorem lw_rate {L : Nat} {xs : Nat → Int} {i : Int} {M M1 M2 M' : am_M} {v w : Int} (hi : ∀ k : Int, 0 ≤ k → k < 6 → 0 ≤ wI (i + k) ∧ wI (i + k) < L) (hX : X_X8_rate_0 (xs (wI (i + 1)).toNat) (xs (wI (i + 2)).toNat) M = some (v, M1)) (hY : X_X9_rate_53 (xs (wI (i + 1)).toNat) (xs (wI (i + 2)).toNat) M1 = some (w, M2)) (hK : LwB L xs 52 i M2 M') : LwB L xs 16 i M M' :=
  lg_16 (And.intro (hi 1 (by decide) (by decide)) <| And.intro (hi 2 (by decide) (by decide)) <| And.intro rfl <| And.intro (Nat.le_of_ble_eq_true rfl) <| Exists.intro _ <| Exists.intro _ <| And.intro (dv_X8_rate_0 _ _ _ _ _ hX) <| And.intro rfl <| And.intro (hi 1 (by decide) (by decide)) <| And.intro (hi 2 (by decide) (by decide)) <| And.intro rfl <| And.intro (Nat.le_of_ble_eq_true rfl) <| Exists.intro _ <| Exists.intro _ <| And.intro (dv_X9_rate_53 _ _ _ _ _ hY) <| And.intro rfl <| hK)
theorem dv_X8_day_0 (v1 v2 : Int) (M M' : am_M) (x : Int) (h : X_X8_day_0 v1 v2 M = some (x, M')) : am_Calls 119 [.inr (.inr (some 0)), .inl v1, .inl v2] SH M (some (.inl x)) SH M' := by
  have e := dc_X8_day_0 v1 v2 M M' x h
  rw [show am_rk 119 = 1 from by decide +kernel] at e
  exact e
theorem dv_X9_day_53 (v1 v2 : Int) (M M' : am_M) (x : Int) (h : X_X9_day_53 v1 v2 M = some (x, M')) : am_Calls 208 [.inr (.inr (some 53)), .inl v1, .inl v2] SH M (some (.inl x)) SH M' := by
  have e := dc_X9_day_53 v1 v2 M M' x h
  rw [show am_rk 208 = 1 from by decide +kernel] at e
  exact e
theorem lw_day {L : Nat} {xs : Nat → Int} {i : Int} {M M1 M2 M' : am_M} {v w : Int} (hi : ∀ k : Int, 0 ≤ k → k < 6 → 0 ≤ wI (i + k) ∧ wI (i + k) < L) (hX : X_X8_day_0 (xs (wI (i + 1)).toNat) (xs (wI (i + 2)).toNat) M = some (v, M1)) (hY : X_X9_day_53 (xs (wI (i + 1)).toNat) (xs (wI (i + 2)).toNat) M1 = some (w, M2)) (hK : LwB L xs 52 i M2 M') : LwB L xs 17 i M M' :=
  lg_17 (And.intro (hi 1 (by decide) (by decide)) <| And.intro (hi 2 (by decide) (by decide)) <| And.intro rfl <| And.intro (Nat.le_of_ble_eq_true rfl) <| Exists.intro _ <| Exists.intro _ <| And.intro (dv_X8_day_0 _ _ _ _ _ hX) <| And.intro rfl <| And.intro (hi 1 (by decide) (by decide)) <| And.intro (hi 2 (by decide) (by decide)) <| And.intro rfl <| And.intro (Nat.le_of_ble_eq_true rfl) <| Exists.intro _ <| Exists.intro _ <| And.intro (dv_X9_day_53 _ _ _ _ _ hY) <| And.intro rfl <| hK)
theorem dv_X8_undo_0 (v1 : Int) (M M' : am_M) (x : Int) (h : X_X8_undo_0 v1 M = some (x, M')) : am_Calls 120 [.inr (.inr (some 0)), .inl v1] SH M (some (.inl x)) SH M' := by
  have e := dc_X8_undo_0 v1 M M' x h
  rw [show am_rk 120 = 1 from by decide +kernel] at e
  exact e
theorem dv_X9_undo_53 (v1 : Int) (M M' : am_M) (x : Int) (h : X_X9_undo_53 v1 M = some (x, M')) : am_Calls 211 [.inr (.inr (some 53)), .inl v1] SH M (some (.inl x)) SH M' := by
  have e := dc_X9_undo_53 v1 M M' x h
  rw [show am_rk 211 = 1 from by decide +kernel] at e
  exact e
theorem lw_undo {L : Nat} {xs : Nat → Int} {i : Int} {M M1 M2 M' : am_M} {v w : Int} (hi : ∀ k : Int, 0 ≤ k → k < 6 → 0 ≤ wI (i + k) ∧ wI (i + k) < L) (hX : X_X8_undo_0 (xs (wI (i + 1)).toNat) M = some (v, M1)) (hY : X_X9_undo_53 (xs (wI (i + 1)).toNat) M1 = some (w, M2)) (hK : LwB L xs 52 i M2 M') : LwB L xs 18 i M M' :=
  lg_18 (And.intro (hi 1 (by decide) (by decide)) <| And.intro rfl <| And.intro (Nat.le_of_ble_eq_true rfl) <| Exists.intro _ <| Exists.intro _ <| And.intro (dv_X8_undo_0 _ _ _ _ hX) <| And.intro rfl <| And.intro (hi 1 (by decide) (by decide)) <| And.intro rfl <| And.intro (Nat.le_of_ble_eq_true rfl) <| Exists.intro _ <| Exists.intro _ <| And.intro (dv_X9_undo_53 _ _ _ _ hY) <| And.intro rfl <| hK)
theorem dv_X8_border_0 (M M' : am_M) (x : Int) (h : X_X8_border_0 M = some (x, M')) : am_Calls 121 [.inr (.inr (some 0))] SH M (some (.inl x)) SH M' := by
  have e := dc_X8_border_0 M M' x h
  rw [show am_rk 121 = 1 from by decide +kernel] at e
  exact e
theorem dv_X9_border_53 (M M' : am_M) (x : Int) (h : X_X9_border_53 M = some (x, M')) : am_Calls 212 [.inr (.inr (some 53))] SH M (some (.inl x)) SH M' := by
  have e := dc_X9_border_53 M M' x h
  rw [show am_rk 212 = 1 from by decide +kernel] at e
  exact e
theorem lw_border {L : Nat} {xs : Nat → Int} {i : Int} {M M1 M2 M' : am_M} {v w : Int} (hi : ∀ k : Int, 0 ≤ k → k < 6 → 0 ≤ wI (i + k) ∧ wI (i + k) < L) (hX : X_X8_border_0 M = some (v, M1)) (hY : X_X9_border_53 M1 = some (w, M2)) (hK : LwB L xs 52 i M2 M') : LwB L xs 19 i M M' :=
  lg_19 (And.intro rfl <| And.intro (Nat.le_of_ble_eq_true rfl) <| Exists.intro _ <| Exists.intro _ <| And.intro (dv_X8_border_0 _ _ _ hX) <| And.intro rfl <| And.intro rfl <| And.intro (Nat.le_of_ble_eq_true rfl) <| Exists.intro _ <| Exists.intro _ <| And.intro (dv_X9_border_53 _ _ _ hY) <| And.intro rfl <| hK)
theorem dv_X8_lain_0 (v1 : Int) (M M' : am_M) (x : Int) (h : X_X8_lain_0 v1 M = some (x, M')) : am_Calls 122 [.inr (.inr (some 0)), .inl v1] SH M (some (.inl x)) SH M' := by
  have e := dc_X8_lain_0 v1 M M' x h
  rw [show am_rk 122 = 1 from by decide +kernel] at e
  exact e
theorem dv_X9_lain_53 (v1 : Int) (M M' : am_M) (x : Int) (h : X_X9_lain_53 v1 M = some (x, M')) : am_Calls 213 [.inr (.inr (some 53)), .inl v1] SH M (some (.inl x)) SH M' := by
  have e := dc_X9_lain_53 v1 M M' x h
  rw [show am_rk 213 = 1 from by decide +kernel] at e
  exact e
theorem lw_lain {L : Nat} {xs : Nat → Int} {i : Int} {M M1 M2 M' : am_M} {v w : Int} (hi : ∀ k : Int, 0 ≤ k → k < 6 → 0 ≤ wI (i + k) ∧ wI (i + k) < L) (hX : X_X8_lain_0 (xs (wI (i + 1)).toNat) M = some (v, M1)) (hY : X_X9_lain_53 (xs (wI (i + 1)).toNat) M1 = some (w, M2)) (hK : LwB L xs 52 i M2 M') : LwB L xs 20 i M M' :=
  lg_20 (And.intro (hi 1 (by decide) (by decide)) <| And.intro rfl <| And.intro (Nat.le_of_ble_eq_true rfl) <| Exists.intro _ <| Exists.intro _ <| And.intro (dv_X8_lain_0 _ _ _ _ hX) <| And.intro rfl <| And.intro (hi 1 (by decide) (by decide)) <| And.intro rfl <| And.intro (Nat.le_of_ble_eq_true rfl) <| Exists.intro _ <| Exists.intro _ <| And.intro (dv_X9_lain_53 _ _ _ _ hY) <| And.intro rfl <| hK)
theorem dv_X8_got_0 (v1 : Int) (M M' : am_M) (x : Int) (h : X_X8_got_0 v1 M = some (x, M')) : am_Calls 123 [.inr (.inr (some 0)), .inl v1] SH M (some (.inl x)) SH M' := by
  have e := dc_X8_got_0 v1 M M' x h
  rw [show am_rk 123 = 1 from by decide +kernel] at e
  exact e
theorem dv_X9_got_53 (v1 : Int) (M M' : am_M) (x : Int) (h : X_X9_got_53 v1 M = some (x, M')) : am_Calls 214 [.inr (.inr (some 53)), .inl v1] SH M (some (.inl x)) SH M' := by
  have e := dc_X9_got_53 v1 M M' x h
  rw [show am_rk 214 = 1 from by decide +kernel] at e
  exact e
theorem lw_got {L : Nat} {xs : Nat → Int} {i : Int} {M M1 M2 M' : am_M} {v w : Int} (hi : ∀ k : Int, 0 ≤ k → k < 6 → 0 ≤ wI (i + k) ∧ wI (i + k) < L) (hX : X_X8_got_0 (xs (wI (i + 1)).toNat) M = some (v, M1)) (hY : X_X9_got_53 (xs (wI (i + 1)).toNat) M1 = some (w, M2)) (hK : LwB L xs 52 i M2 M') : LwB L xs 21 i M M' :=
  lg_21 (And.intro (hi 1 (by decide) (by decide)) <| And.intro rfl <| And.intro (Nat.le_of_ble_eq_true rfl) <| Exists.intro _ <| Exists.intro _ <| And.intro (dv_X8_got_0 _ _ _ _ hX) <| And.intro rfl <| And.intro (hi 1 (by decide) (by decide)) <| And.intro rfl <| And.intro (Nat.le_of_ble_eq_true rfl) <| Exists.intro _ <| Exists.intro _ <| And.intro (dv_X9_got_53 _ _ _ _ hY) <| And.intro rfl <| hK)
theorem dv_X8_keep_0 (v1 : Int) (M M' : am_M) (x : Int) (h : X_X8_keep_0 v1 M = some (x, M')) : am_Calls 124 [.inr (.inr (some 0)), .inl v1] SH M (some (.inl x)) SH M' := by
  have e := dc_X8_keep_0 v1 M M' x h
  rw [show am_rk 124 = 1 from by decide +kernel] at e
  exact e
theorem dv_X9_keep_53 (v1 : Int) (M M' : am_M) (x : Int) (h : X_X9_keep_53 v1 M = some (x, M')) : am_Calls 215 [.inr (.inr (some 53)), .inl v1] SH M (some (.inl x)) SH M' := by
  have e := dc_X9_keep_53 v1 M M' x h
  rw [show am_rk 215 = 1 from by decide +kernel] at e
  exact e
theorem lw_keep {L : Nat} {xs : Nat → Int} {i : Int} {M M1 M2 M' : am_M} {v w : Int} (hi : ∀ k : Int, 0 ≤ k → k < 6 → 0 ≤ wI (i + k) ∧ wI (i + k) < L) (hX : X_X8_keep_0 (xs (wI (i + 1)).toNat) M = some (v, M1)) (hY : X_X9_keep_53 (xs (wI (i + 1)).toNat) M1 = some (w, M2)) (hK : LwB L xs 52 i M2 M') : LwB L xs 22 i M M' :=
  lg_22 (And.intro (hi 1 (by decide) (by decide)) <| And.intro rfl <| And.intro (Nat.le_of_ble_eq_true rfl) <| Exists.intro _ <| Exists.intro _ <| And.intro (dv_X8_keep_0 _ _ _ _ hX) <| And.intro rfl <| And.intro (hi 1 (by decide) (by decide)) <| And.intro rfl <| And.intro (Nat.le_of_ble_eq_true rfl) <| Exists.intro _ <| Exists.intro _ <| And.intro (dv_X9_keep_53 _ _ _ _ hY) <| And.intro rfl <| hK)
theorem dv_X8_on_0 (v1 : Int) (M M' : am_M) (x : Int) (h : X_X8_on_0 v1 M = some (x, M')) : am_Calls 125 [.inr (.inr (some 0)), .inl v1] SH M (some (.inl x)) SH M' := by
  have e := dc_X8_on_0 v1 M M' x h
  rw [show am_rk 125 = 1 from by decide +kernel] at e
  exact e
theorem dv_X9_on_53 (v1 : Int) (M M' : am_M) (x : Int) (h : X_X9_on_53 v1 M = some (x, M')) : am_Calls 216 [.inr (.inr (some 53)), .inl v1] SH M (some (.inl x)) SH M' := by
  have e := dc_X9_on_53 v1 M M' x h
  rw [show am_rk 216 = 1 from by decide +kernel] at e
  exact e
theorem lw_on {L : Nat} {xs : Nat → Int} {i : Int} {M M1 M2 M' : am_M} {v w : Int} (hi : ∀ k : Int, 0 ≤ k → k < 6 → 0 ≤ wI (i + k) ∧ wI (i + k) < L) (hX : X_X8_on_0 (xs (wI (i + 1)).toNat) M = some (v, M1)) (hY : X_X9_on_53 (xs (wI (i + 1)).toNat) M1 = some (w, M2)) (hK : LwB L xs 52 i M2 M') : LwB L xs 23 i M M' :=
  lg_23 (And.intro (hi 1 (by decide) (by decide)) <| And.intro rfl <| And.intro (Nat.le_of_ble_eq_true rfl) <| Exists.intro _ <| Exists.intro _ <| And.intro (dv_X8_on_0 _ _ _ _ hX) <| And.intro rfl <| And.intro (hi 1 (by decide) (by decide)) <| And.intro rfl <| And.intro (Nat.le_of_ble_eq_true rfl) <| Exists.intro _ <| Exists.intro _ <| And.intro (dv_X9_on_53 _ _ _ _ hY) <| And.intro rfl <| hK)
theorem dv_X8_moves_0 (M M' : am_M) (x : Int) (h : X_X8_moves_0 M = some (x, M')) : am_Calls 126 [.inr (.inr (some 0))] SH M (some (.inl x)) SH M' := by
  have e := dc_X8_moves_0 M M' x h
  rw [show am_rk 126 = 1 from by decide +kernel] at e
  exact e
theorem dv_X9_moves_53 (M M' : am_M) (x : Int) (h : X_X9_moves_53 M = some (x, M')) : am_Calls 220 [.inr (.inr (some 53))] SH M (some (.inl x)) SH M' := by
  have e := dc_X9_moves_53 M M' x h
  rw [show am_rk 220 = 1 from by decide +kernel] at e
  exact e
theorem lw_moves {L : Nat} {xs : Nat → Int} {i : Int} {M M1 M2 M' : am_M} {v w : Int} (hi : ∀ k : Int, 0 ≤ k → k < 6 → 0 ≤ wI (i + k) ∧ wI (i + k) < L) (hX : X_X8_moves_0 M = some (v, M1)) (hY : X_X9_moves_53 M1 = some (w, M2)) (hK : LwB L xs 52 i M2 M') : LwB L xs 24 i M M' :=
  lg_24 (And.intro rfl <| And.intro (Nat.le_of_ble_eq_true rfl) <| Exists.intro _ <| Exists.intro _ <| And.intro (dv_X8_moves_0 _ _ _ hX) <| And.intro rfl <| And.intro rfl <| And.intro (Nat.le_of_ble_eq_true rfl) <| Exists.intro _ <| Exists.intro _ <| And.intro (dv_X9_moves_53 _ _ _ hY) <| And.intro rfl <| hK)
theorem dv_X8_judge_0 (v1 : Int) (M M' : am_M) (x : Int) (h : X_X8_judge_0 v1 M = some (x, M')) : am_Calls 127 [.inr (.inr (some 0)), .inl v1] SH M (some (.inl x)) SH M' := by
  have e := dc_X8_judge_0 v1 M M' x h
  rw [show am_rk 127 = 1 from by decide +kernel] at e
  exact e
theorem dv_X9_judge_53 (v1 : Int) (M M' : am_M) (x : Int) (h : X_X9_judge_53 v1 M = some (x, M')) : am_Calls 223 [.inr (.inr (some 53)), .inl v1] SH M (some (.inl x)) SH M' := by
  have e := dc_X9_judge_53 v1 M M' x h
  rw [show am_rk 223 = 1 from by decide +kernel] at e
  exact e
theorem lw_judge {L : Nat} {xs : Nat → Int} {i : Int} {M M1 M2 M' : am_M} {v w : Int} (hi : ∀ k : Int, 0 ≤ k → k < 6 → 0 ≤ wI (i + k) ∧ wI (i + k) < L) (hX : X_X8_judge_0 (xs (wI (i + 1)).toNat) M = some (v, M1)) (hY : X_X9_judge_53 (xs (wI (i + 1)).toNat) M1 = some (w, M2)) (hK : LwB L xs 52 i M2 M') : LwB L xs 25 i M M' :=
  lg_25 (And.intro (hi 1 (by decide) (by decide)) <| And.intro rfl <| And.intro (Nat.le_of_ble_eq_true rfl) <| Exists.intro _ <| Exists.intro _ <| And.intro (dv_X8_judge_0 _ _ _ _ hX) <| And.intro rfl <| And.intro (hi 1 (by decide) (by decide)) <| And.intro rfl <| And.intro (Nat.le_of_ble_eq_true rfl) <| Exists.intro _ <| Exists.intro _ <| And.intro (dv_X9_judge_53 _ _ _ _ hY) <| And.intro rfl <| hK)
theorem dv_X8_rude_0 (v1 : Int) (M M' : am_M) (x : Int) (h : X_X8_rude_0 v1 M = some (x, M')) : am_Calls 128 [.inr (.inr (some 0)), .inl v1] SH M (some (.inl x)) SH M' := by
  have e := dc_X8_rude_0 v1 M M' x h
  rw [show am_rk 128 = 1 from by decide +kernel] at e
  exact e
theorem dv_X9_rude_53 (v1 : Int) (M M' : am_M) (x : Int) (h : X_X9_rude_53 v1 M = some (x, M')) : am_Calls 224 [.inr (.inr (some 53)), .inl v1] SH M (some (.inl x)) SH M' := by
  have e := dc_X9_rude_53 v1 M M' x h
  rw [show am_rk 224 = 1 from by decide +kernel] at e
  exact e
theorem lw_rude {L : Nat} {xs : Nat → Int} {i : Int} {M M1 M2 M' : am_M} {v w : Int} (hi : ∀ k : Int, 0 ≤ k → k < 6 → 0 ≤ wI (i + k) ∧ wI (i + k) < L) (hX : X_X8_rude_0 (xs (wI (i + 1)).toNat) M = some (v, M1)) (hY : X_X9_rude_53 (xs (wI (i + 1)).toNat) M1 = some (w, M2)) (hK : LwB L xs 52 i M2 M') : LwB L xs 26 i M M' :=
  lg_26 (And.intro (hi 1 (by decide) (by decide)) <| And.intro rfl <| And.intro (Nat.le_of_ble_eq_true rfl) <| Exists.intro _ <| Exists.intro _ <| And.intro (dv_X8_rude_0 _ _ _ _ hX) <| And.intro rfl <| And.intro (hi 1 (by decide) (by decide)) <| And.intro rfl <| And.intro (Nat.le_of_ble_eq_true rfl) <| Exists.intro _ <| Exists.intro _ <| And.intro (dv_X9_rude_53 _ _ _ _ hY) <| And.intro rfl <| hK)
theorem dv_X8_pays_0 (v1 v2 : Int) (M M' : am_M) (x : Int) (h : X_X8_pays_0 v1 v2 M = some (x, M')) : am_Calls 129 [.inr (.inr (some 0)), .inl v1, .inl v2] SH M (some (.inl x)) SH M' := by
  have e := dc_X8_pays_0 v1 v2 M M' x h
  rw [show am_rk 129 = 1 from by decide +kernel] at e
  exact e
theorem dv_X9_pays_53 (v1 v2 : Int) (M M' : am_M) (x : Int) (h : X_X9_pays_53 v1 v2 M = some (x, M')) : am_Calls 226 [.inr (.inr (some 53)), .inl v1, .inl v2] SH M (some (.inl x)) SH M' := by
  have e := dc_X9_pays_53 v1 v2 M M' x h
  rw [show am_rk 226 = 1 from by decide +kernel] at e
  exact e
theorem lw_pays {L : Nat} {xs : Nat → Int} {i : Int} {M M1 M2 M' : am_M} {v w : Int} (hi : ∀ k : Int, 0 ≤ k → k < 6 → 0 ≤ wI (i + k) ∧ wI (i + k) < L) (hX : X_X8_pays_0 (xs (wI (i + 1)).toNat) (xs (wI (i + 2)).toNat) M = some (v, M1)) (hY : X_X9_pays_53 (xs (wI (i + 1)).toNat) (xs (wI (i + 2)).toNat) M1 = some (w, M2)) (hK : LwB L xs 52 i M2 M') : LwB L xs 27 i M M' :=
  lg_27 (And.intro (hi 1 (by decide) (by decide)) <| And.intro (hi 2 (by decide) (by decide)) <| And.intro rfl <| And.intro (Nat.le_of_ble_eq_true rfl) <| Exists.intro _ <| Exists.intro _ <| And.intro (dv_X8_pays_0 _ _ _ _ _ hX) <| And.intro rfl <| And.intro (hi 1 (by decide) (by decide)) <| And.intro (hi 2 (by decide) (by decide)) <| And.intro rfl <| And.intro (Nat.le_of_ble_eq_true rfl) <| Exists.intro _ <| Exists.intro _ <| And.intro (dv_X9_pays_53 _ _ _ _ _ hY) <| And.intro rfl <| hK)
theorem dv_X8_soonest_0 (v1 v2 : Int) (M M' : am_M) (x : Int) (h : X_X8_soonest_0 v1 v2 M = some (x, M')) : am_Calls 130 [.inr (.inr (some 0)), .inl v1, .inl v2] SH M (some (.inl x)) SH M' := by
  have e := dc_X8_soonest_0 v1 v2 M M' x h
  rw [show am_rk 130 = 1 from by decide +kernel] at e
  exact e
theorem dv_X9_soonest_53 (v1 v2 : Int) (M M' : am_M) (x : Int) (h : X_X9_soonest_53 v1 v2 M = some (x, M')) : am_Calls 231 [.inr (.inr (some 53)), .inl v1, .inl v2] SH M (some (.inl x)) SH M' := by
  have e := dc_X9_soonest_53 v1 v2 M M' x h
  rw [show am_rk 231 = 1 from by decide +kernel] at e
  exact e
theorem lw_soonest {L : Nat} {xs : Nat → Int} {i : Int} {M M1 M2 M' : am_M} {v w : Int} (hi : ∀ k : Int, 0 ≤ k → k < 6 → 0 ≤ wI (i + k) ∧ wI (i + k) < L) (hX : X_X8_soonest_0 (xs (wI (i + 1)).toNat) (xs (wI (i + 2)).toNat) M = some (v, M1)) (hY : X_X9_soonest_53 (xs (wI (i + 1)).toNat) (xs (wI (i + 2)).toNat) M1 = some (w, M2)) (hK : LwB L xs 52 i M2 M') : LwB L xs 28 i M M' :=
  lg_28 (And.intro (hi 1 (by decide) (by decide)) <| And.intro (hi 2 (by decide) (by decide)) <| And.intro rfl <| And.intro (Nat.le_of_ble_eq_true rfl) <| Exists.intro _ <| Exists.intro _ <| And.intro (dv_X8_soonest_0 _ _ _ _ _ hX) <| And.intro rfl <| And.intro (hi 1 (by decide) (by decide)) <| And.intro (hi 2 (by decide) (by decide)) <| And.intro rfl <| And.intro (Nat.le_of_ble_eq_true rfl) <| Exists.intro _ <| Exists.intro _ <| And.intro (dv_X9_soonest_53 _ _ _ _ _ hY) <| And.intro rfl <| hK)
theorem dv_X8_polite_0 (v1 v2 v3 : Int) (M M' : am_M) (x : Int) (h : X_X8_polite_0 v1 v2 v3 M = some (x, M')) : am_Calls 131 [.inr (.inr (some 0)), .inl v1, .inl v2, .inl v3] SH M (some (.inl x)) SH M' := by
  have e := dc_X8_polite_0 v1 v2 v3 M M' x h
  rw [show am_rk 131 = 1 from by decide +kernel] at e
  exact e
theorem dv_X9_polite_53 (v1 v2 v3 : Int) (M M' : am_M) (x : Int) (h : X_X9_polite_53 v1 v2 v3 M = some (x, M')) : am_Calls 235 [.inr (.inr (some 53)), .inl v1, .inl v2, .inl v3] SH M (some (.inl x)) SH M' := by
  have e := dc_X9_polite_53 v1 v2 v3 M M' x h
  rw [show am_rk 235 = 1 from by decide +kernel] at e
  exact e
theorem lw_polite {L : Nat} {xs : Nat → Int} {i : Int} {M M1 M2 M' : am_M} {v w : Int} (hi : ∀ k : Int, 0 ≤ k → k < 6 → 0 ≤ wI (i + k) ∧ wI (i + k) < L) (hX : X_X8_polite_0 (xs (wI (i + 1)).toNat) (xs (wI (i + 2)).toNat) (xs (wI (i + 3)).toNat) M = some (v, M1)) (hY : X_X9_polite_53 (xs (wI (i + 1)).toNat) (xs (wI (i + 2)).toNat) (xs (wI (i + 3)).toNat) M1 = some (w, M2)) (hK : LwB L xs 52 i M2 M') : LwB L xs 29 i M M' :=
  lg_29 (And.intro (hi 1 (by decide) (by decide)) <| And.intro (hi 2 (by decide) (by decide)) <| And.intro (hi 3 (by decide) (by decide)) <| And.intro rfl <| And.intro (Nat.le_of_ble_eq_true rfl) <| Exists.intro _ <| Exists.intro _ <| And.intro (dv_X8_polite_0 _ _ _ _ _ _ hX) <| And.intro rfl <| And.intro (hi 1 (by decide) (by decide)) <| And.intro (hi 2 (by decide) (by decide)) <| And.intro (hi 3 (by decide) (by decide)) <| And.intro rfl <| And.intro (Nat.le_of_ble_eq_true rfl) <| Exists.intro _ <| Exists.intro _ <| And.intro (dv_X9_polite_53 _ _ _ _ _ _ hY) <| And.intro rfl <| hK)
theorem dv_X8_ways_0 (v1 v2 : Int) (M M' : am_M) (x : Int) (h : X_X8_ways_0 v1 v2 M = some (x, M')) : am_Calls 132 [.inr (.inr (some 0)), .inl v1, .inl v2] SH M (some (.inl x)) SH M' := by
  have e := dc_X8_ways_0 v1 v2 M M' x h
  rw [show am_rk 132 = 1 from by decide +kernel] at e
  exact e
theorem dv_X9_ways_53 (v1 v2 : Int) (M M' : am_M) (x : Int) (h : X_X9_ways_53 v1 v2 M = some (x, M')) : am_Calls 237 [.inr (.inr (some 53)), .inl v1, .inl v2] SH M (some (.inl x)) SH M' := by
  have e := dc_X9_ways_53 v1 v2 M M' x h
  rw [show am_rk 237 = 1 from by decide +kernel] at e
  exact e
theorem lw_ways {L : Nat} {xs : Nat → Int} {i : Int} {M M1 M2 M' : am_M} {v w : Int} (hi : ∀ k : Int, 0 ≤ k → k < 6 → 0 ≤ wI (i + k) ∧ wI (i + k) < L) (hX : X_X8_ways_0 (xs (wI (i + 1)).toNat) (xs (wI (i + 2)).toNat) M = some (v, M1)) (hY : X_X9_ways_53 (xs (wI (i + 1)).toNat) (xs (wI (i + 2)).toNat) M1 = some (w, M2)) (hK : LwB L xs 52 i M2 M') : LwB L xs 30 i M M' :=
  lg_30 (And.intro (hi 1 (by decide) (by decide)) <| And.intro (hi 2 (by decide) (by decide)) <| And.intro rfl <| And.intro (Nat.le_of_ble_eq_true rfl) <| Exists.intro _ <| Exists.intro _ <| And.intro (dv_X8_ways_0 _ _ _ _ _ hX) <| And.intro rfl <| And.intro (hi 1 (by decide) (by decide)) <| And.intro (hi 2 (by decide) (by decide)) <| And.intro rfl <| And.intro (Nat.le_of_ble_eq_true rfl) <| Exists.intro _ <| Exists.intro _ <| And.intro (dv_X9_ways_53 _ _ _ _ _ hY) <| And.intro rfl <| hK)
theorem dv_X8_reach_0 (v1 : Int) (M M' : am_M) (x : Int) (h : X_X8_reach_0 v1 M = some (x, M')) : am_Calls 133 [.inr (.inr (some 0)), .inl v1] SH M (some (.inl x)) SH M' := by
  have e := dc_X8_reach_0 v1 M M' x h
  rw [show am_rk 133 = 1 from by decide +kernel] at e
  exact e
theorem dv_X9_reach_53 (v1 : Int) (M M' : am_M) (x : Int) (h : X_X9_reach_53 v1 M = some (x, M')) : am_Calls 238 [.inr (.inr (some 53)), .inl v1] SH M (some (.inl x)) SH M' := by
  have e := dc_X9_reach_53 v1 M M' x h
  rw [show am_rk 238 = 1 from by decide +kernel] at e
  exact e
theorem lw_reach {L : Nat} {xs : Nat → Int} {i : Int} {M M1 M2 M' : am_M} {v w : Int} (hi : ∀ k : Int, 0 ≤ k → k < 6 → 0 ≤ wI (i + k) ∧ wI (i + k) < L) (hX : X_X8_reach_0 (xs (wI (i + 1)).toNat) M = some (v, M1)) (hY : X_X9_reach_53 (xs (wI (i + 1)).toNat) M1 = some (w, M2)) (hK : LwB L xs 52 i M2 M') : LwB L xs 31 i M M' :=
  lg_31 (And.intro (hi 1 (by decide) (by decide)) <| And.intro rfl <| And.intro (Nat.le_of_ble_eq_true rfl) <| Exists.intro _ <| Exists.intro _ <| And.intro (dv_X8_reach_0 _ _ _ _ hX) <| And.intro rfl <| And.intro (hi 1 (by decide) (by decide)) <| And.intro rfl <| And.intro (Nat.le_of_ble_eq_true rfl) <| Exists.intro _ <| Exists.intro _ <| And.intro (dv_X9_reach_53 _ _ _ _ hY) <| And.intro rfl <| hK)
theorem dv_X8_least_0 (v1 v2 v3 : Int) (M M' : am_M) (x : Int) (h : X_X8_least_0 v1 v2 v3 M = some (x, M')) : am_Calls 134 [.inr (.inr (some 0)), .inl v1, .inl v2, .inl v3] SH M (some (.inl x)) SH M' := by
  have e := dc_X8_least_0 v1 v2 v3 M M' x h
  rw [show am_rk 134 = 1 from by decide +kernel] at e
  exact e
theorem dv_X9_least_53 (v1 v2 v3 : Int) (M M' : am_M) (x : Int) (h : X_X9_least_53 v1 v2 v3 M = some (x, M')) : am_Calls 239 [.inr (.inr (some 53)), .inl v1, .inl v2, .inl v3] SH M (some (.inl x)) SH M' := by
  have e := dc_X9_least_53 v1 v2 v3 M M' x h
  rw [show am_rk 239 = 1 from by decide +kernel] at e
  exact e
theorem lw_least {L : Nat} {xs : Nat → Int} {i : Int} {M M1 M2 M' : am_M} {v w : Int} (hi : ∀ k : Int, 0 ≤ k → k < 6 → 0 ≤ wI (i + k) ∧ wI (i + k) < L) (hX : X_X8_least_0 (xs (wI (i + 1)).toNat) (xs (wI (i + 2)).toNat) (xs (wI (i + 3)).toNat) M = some (v, M1)) (hY : X_X9_least_53 (xs (wI (i + 1)).toNat) (xs (wI (i + 2)).toNat) (xs (wI (i + 3)).toNat) M1 = some (w, M2)) (hK : LwB L xs 52 i M2 M') : LwB L xs 32 i M M' :=
  lg_32 (And.intro (hi 1 (by decide) (by decide)) <| And.intro (hi 2 (by decide) (by decide)) <| And.intro (hi 3 (by decide) (by decide)) <| And.intro rfl <| And.intro (Nat.le_of_ble_eq_true rfl) <| Exists.intro _ <| Exists.intro _ <| And.intro (dv_X8_least_0 _ _ _ _ _ _ hX) <| And.intro rfl <| And.intro (hi 1 (by decide) (by decide)) <| And.intro (hi 2 (by decide) (by decide)) <| And.intro (hi 3 (by decide) (by decide)) <| And.intro rfl <| And.intro (Nat.le_of_ble_eq_true rfl) <| Exists.intro _ <| Exists.intro _ <| And.intro (dv_X9_least_53 _ _ _ _ _ _ hY) <| And.intro rfl <| hK)
theorem dv_X8_most_0 (v1 v2 : Int) (M M' : am_M) (x : Int) (h : X_X8_most_0 v1 v2 M = some (x, M')) : am_Calls 135 [.inr (.inr (some 0)), .inl v1, .inl v2] SH M (some (.inl x)) SH M' := by
  have e := dc_X8_most_0 v1 v2 M M' x h
  rw [show am_rk 135 = 1 from by decide +kernel] at e
  exact e
theorem dv_X9_most_53 (v1 v2 : Int) (M M' : am_M) (x : Int) (h : X_X9_most_53 v1 v2 M = some (x, M')) : am_Calls 240 [.inr (.inr (some 53)), .inl v1, .inl v2] SH M (some (.inl x)) SH M' := by
  have e := dc_X9_most_53 v1 v2 M M' x h
  rw [show am_rk 240 = 1 from by decide +kernel] at e
  exact e
theorem lw_most {L : Nat} {xs : Nat → Int} {i : Int} {M M1 M2 M' : am_M} {v w : Int} (hi : ∀ k : Int, 0 ≤ k → k < 6 → 0 ≤ wI (i + k) ∧ wI (i + k) < L) (hX : X_X8_most_0 (xs (wI (i + 1)).toNat) (xs (wI (i + 2)).toNat) M = some (v, M1)) (hY : X_X9_most_53 (xs (wI (i + 1)).toNat) (xs (wI (i + 2)).toNat) M1 = some (w, M2)) (hK : LwB L xs 52 i M2 M') : LwB L xs 33 i M M' :=
  lg_33 (And.intro (hi 1 (by decide) (by decide)) <| And.intro (hi 2 (by decide) (by decide)) <| And.intro rfl <| And.intro (Nat.le_of_ble_eq_true rfl) <| Exists.intro _ <| Exists.intro _ <| And.intro (dv_X8_most_0 _ _ _ _ _ hX) <| And.intro rfl <| And.intro (hi 1 (by decide) (by decide)) <| And.intro (hi 2 (by decide) (by decide)) <| And.intro rfl <| And.intro (Nat.le_of_ble_eq_true rfl) <| Exists.intro _ <| Exists.intro _ <| And.intro (dv_X9_most_53 _ _ _ _ _ hY) <| And.intro rfl <| hK)
theorem dv_X8_now_0 (M M' : am_M) (x : Int) (h : X_X8_now_0 M = some (x, M')) : am_Calls 136 [.inr (.inr (some 0))] SH M (some (.inl x)) SH M' := by
  have e := dc_X8_now_0 M M' x h
  rw [show am_rk 136 = 1 from by decide +kernel] at e
  exact e
theorem dv_X9_now_53 (M M' : am_M) (x : Int) (h : X_X9_now_53 M = some (x, M')) : am_Calls 241 [.inr (.inr (some 53))] SH M (some (.inl x)) SH M' := by
  have e := dc_X9_now_53 M M' x h
  rw [show am_rk 241 = 1 from by decide +kernel] at e
  exact e
theorem lw_now {L : Nat} {xs : Nat → Int} {i : Int} {M M1 M2 M' : am_M} {v w : Int} (hi : ∀ k : Int, 0 ≤ k → k < 6 → 0 ≤ wI (i + k) ∧ wI (i + k) < L) (hX : X_X8_now_0 M = some (v, M1)) (hY : X_X9_now_53 M1 = some (w, M2)) (hK : LwB L xs 52 i M2 M') : LwB L xs 34 i M M' :=
  lg_34 (And.intro rfl <| And.intro (Nat.le_of_ble_eq_true rfl) <| Exists.intro _ <| Exists.intro _ <| And.intro (dv_X8_now_0 _ _ _ hX) <| And.intro rfl <| And.intro rfl <| And.intro (Nat.le_of_ble_eq_true rfl) <| Exists.intro _ <| Exists.intro _ <| And.intro (dv_X9_now_53 _ _ _ hY) <| And.intro rfl <| hK)
theorem dv_X8_odds_0 (v1 v2 : Int) (M M' : am_M) (x : Int) (h : X_X8_odds_0 v1 v2 M = some (x, M')) : am_Calls 137 [.inr (.inr (some 0)), .inl v1, .inl v2] SH M (some (.inl x)) SH M' := by
  have e := dc_X8_odds_0 v1 v2 M M' x h
  rw [show am_rk 137 = 1 from by decide +kernel] at e
  exact e
theorem dv_X9_odds_53 (v1 v2 : Int) (M M' : am_M) (x : Int) (h : X_X9_odds_53 v1 v2 M = some (x, M')) : am_Calls 244 [.inr (.inr (some 53)), .inl v1, .inl v2] SH M (some (.inl x)) SH M' := by
  have e := dc_X9_odds_53 v1 v2 M M' x h
  rw [show am_rk 244 = 1 from by decide +kernel] at e
  exact e
theorem lw_odds {L : Nat} {xs : Nat → Int} {i : Int} {M M1 M2 M' : am_M} {v w : Int} (hi : ∀ k : Int, 0 ≤ k → k < 6 → 0 ≤ wI (i + k) ∧ wI (i + k) < L) (hX : X_X8_odds_0 (xs (wI (i + 1)).toNat) (xs (wI (i + 2)).toNat) M = some (v, M1)) (hY : X_X9_odds_53 (xs (wI (i + 1)).toNat) (xs (wI (i + 2)).toNat) M1 = some (w, M2)) (hK : LwB L xs 52 i M2 M') : LwB L xs 35 i M M' :=
  lg_35 (And.intro (hi 1 (by decide) (by decide)) <| And.intro (hi 2 (by decide) (by decide)) <| And.intro rfl <| And.intro (Nat.le_of_ble_eq_true rfl) <| Exists.intro _ <| Exists.intro _ <| And.intro (dv_X8_odds_0 _ _ _ _ _ hX) <| And.intro rfl <| And.intro (hi 1 (by decide) (by decide)) <| And.intro (hi 2 (by decide) (by decide)) <| And.intro rfl <| And.intro (Nat.le_of_ble_eq_true rfl) <| Exists.intro _ <| Exists.intro _ <| And.intro (dv_X9_odds_53 _ _ _ _ _ hY) <| And.intro rfl <| hK)
theorem dv_X8_met_0 (v1 v2 : Int) (M M' : am_M) (x : Int) (h : X_X8_met_0 v1 v2 M = some (x, M')) : am_Calls 138 [.inr (.inr (some 0)), .inl v1, .inl v2] SH M (some (.inl x)) SH M' := by
  have e := dc_X8_met_0 v1 v2 M M' x h
  rw [show am_rk 138 = 1 from by decide +kernel] at e
  exact e
theorem dv_X9_met_53 (v1 v2 : Int) (M M' : am_M) (x : Int) (h : X_X9_met_53 v1 v2 M = some (x, M')) : am_Calls 245 [.inr (.inr (some 53)), .inl v1, .inl v2] SH M (some (.inl x)) SH M' := by
  have e := dc_X9_met_53 v1 v2 M M' x h
  rw [show am_rk 245 = 1 from by decide +kernel] at e
  exact e
theorem lw_met {L : Nat} {xs : Nat → Int} {i : Int} {M M1 M2 M' : am_M} {v w : Int} (hi : ∀ k : Int, 0 ≤ k → k < 6 → 0 ≤ wI (i + k) ∧ wI (i + k) < L) (hX : X_X8_met_0 (xs (wI (i + 1)).toNat) (xs (wI (i + 2)).toNat) M = some (v, M1)) (hY : X_X9_met_53 (xs (wI (i + 1)).toNat) (xs (wI (i + 2)).toNat) M1 = some (w, M2)) (hK : LwB L xs 52 i M2 M') : LwB L xs 36 i M M' :=
  lg_36 (And.intro (hi 1 (by decide) (by decide)) <| And.intro (hi 2 (by decide) (by decide)) <| And.intro rfl <| And.intro (Nat.le_of_ble_eq_true rfl) <| Exists.intro _ <| Exists.intro _ <| And.intro (dv_X8_met_0 _ _ _ _ _ hX) <| And.intro rfl <| And.intro (hi 1 (by decide) (by decide)) <| And.intro (hi 2 (by decide) (by decide)) <| And.intro rfl <| And.intro (Nat.le_of_ble_eq_true rfl) <| Exists.intro _ <| Exists.intro _ <| And.intro (dv_X9_met_53 _ _ _ _ _ hY) <| And.intro rfl <| hK)
theorem dv_X8_hedge_0 (v1 v2 : Int) (M M' : am_M) (x : Int) (h : X_X8_hedge_0 v1 v2 M = some (x, M')) : am_Calls 139 [.inr (.inr (some 0)), .inl v1, .inl v2] SH M (some (.inl x)) SH M' := by
  have e := dc_X8_hedge_0 v1 v2 M M' x h
  rw [show am_rk 139 = 1 from by decide +kernel] at e
  exact e
theorem dv_X9_hedge_53 (v1 v2 : Int) (M M' : am_M) (x : Int) (h : X_X9_hedge_53 v1 v2 M = some (x, M')) : am_Calls 246 [.inr (.inr (some 53)), .inl v1, .inl v2] SH M (some (.inl x)) SH M' := by
  have e := dc_X9_hedge_53 v1 v2 M M' x h
  rw [show am_rk 246 = 1 from by decide +kernel] at e
  exact e
theorem lw_hedge {L : Nat} {xs : Nat → Int} {i : Int} {M M1 M2 M' : am_M} {v w : Int} (hi : ∀ k : Int, 0 ≤ k → k < 6 → 0 ≤ wI (i + k) ∧ wI (i + k) < L) (hX : X_X8_hedge_0 (xs (wI (i + 1)).toNat) (xs (wI (i + 2)).toNat) M = some (v, M1)) (hY : X_X9_hedge_53 (xs (wI (i + 1)).toNat) (xs (wI (i + 2)).toNat) M1 = some (w, M2)) (hK : LwB L xs 52 i M2 M') : LwB L xs 37 i M M' :=
  lg_37 (And.intro (hi 1 (by decide) (by decide)) <| And.intro (hi 2 (by decide) (by decide)) <| And.intro rfl <| And.intro (Nat.le_of_ble_eq_true rfl) <| Exists.intro _ <| Exists.intro _ <| And.intro (dv_X8_hedge_0 _ _ _ _ _ hX) <| And.intro rfl <| And.intro (hi 1 (by decide) (by decide)) <| And.intro (hi 2 (by decide) (by decide)) <| And.intro rfl <| And.intro (Nat.le_of_ble_eq_true rfl) <| Exists.intro _ <| Exists.intro _ <| And.intro (dv_X9_hedge_53 _ _ _ _ _ hY) <| And.intro rfl <| hK)
theorem dv_X8_game_0 (v1 v2 : Int) (M M' : am_M) (x : Int) (h : X_X8_game_0 v1 v2 M = some (x, M')) : am_Calls 140 [.inr (.inr (some 0)), .inl v1, .inl v2] SH M (some (.inl x)) SH M' := by
  have e := dc_X8_game_0 v1 v2 M M' x h
  rw [show am_rk 140 = 1 from by decide +kernel] at e
  exact e
theorem dv_X9_game_53 (v1 v2 : Int) (M M' : am_M) (x : Int) (h : X_X9_game_53 v1 v2 M = some (x, M')) : am_Calls 253 [.inr (.inr (some 53)), .inl v1, .inl v2] SH M (some (.inl x)) SH M' := by
  have e := dc_X9_game_53 v1 v2 M M' x h
  rw [show am_rk 253 = 1 from by decide +kernel] at e
  exact e
theorem lw_game {L : Nat} {xs : Nat → Int} {i : Int} {M M1 M2 M' : am_M} {v w : Int} (hi : ∀ k : Int, 0 ≤ k → k < 6 → 0 ≤ wI (i + k) ∧ wI (i + k) < L) (hX : X_X8_game_0 (xs (wI (i + 1)).toNat) (xs (wI (i + 2)).toNat) M = some (v, M1)) (hY : X_X9_game_53 (xs (wI (i + 1)).toNat) (xs (wI (i + 2)).toNat) M1 = some (w, M2)) (hK : LwB L xs 52 i M2 M') : LwB L xs 38 i M M' :=
  lg_38 (And.intro (hi 1 (by decide) (by decide)) <| And.intro (hi 2 (by decide) (by decide)) <| And.intro rfl <| And.intro (Nat.le_of_ble_eq_true rfl) <| Exists.intro _ <| Exists.intro _ <| And.intro (dv_X8_game_0 _ _ _ _ _ hX) <| And.intro rfl <| And.intro (hi 1 (by decide) (by decide)) <| And.intro (hi 2 (by decide) (by decide)) <| And.intro rfl <| And.intro (Nat.le_of_ble_eq_true rfl) <| Exists.intro _ <| Exists.intro _ <| And.intro (dv_X9_game_53 _ _ _ _ _ hY) <| And.intro rfl <| hK)
theorem dv_X8_said_0 (v1 v2 : Int) (M M' : am_M) (x : Int) (h : X_X8_said_0 v1 v2 M = some (x, M')) : am_Calls 141 [.inr (.inr (some 0)), .inl v1, .inl v2] SH M (some (.inl x)) SH M' := by
  have e := dc_X8_said_0 v1 v2 M M' x h
  rw [show am_rk 141 = 1 from by decide +kernel] at e
  exact e
theorem dv_X9_said_53 (v1 v2 : Int) (M M' : am_M) (x : Int) (h : X_X9_said_53 v1 v2 M = some (x, M')) : am_Calls 254 [.inr (.inr (some 53)), .inl v1, .inl v2] SH M (some (.inl x)) SH M' := by
  have e := dc_X9_said_53 v1 v2 M M' x h
  rw [show am_rk 254 = 1 from by decide +kernel] at e
  exact e
theorem lw_said {L : Nat} {xs : Nat → Int} {i : Int} {M M1 M2 M' : am_M} {v w : Int} (hi : ∀ k : Int, 0 ≤ k → k < 6 → 0 ≤ wI (i + k) ∧ wI (i + k) < L) (hX : X_X8_said_0 (xs (wI (i + 1)).toNat) (xs (wI (i + 2)).toNat) M = some (v, M1)) (hY : X_X9_said_53 (xs (wI (i + 1)).toNat) (xs (wI (i + 2)).toNat) M1 = some (w, M2)) (hK : LwB L xs 52 i M2 M') : LwB L xs 39 i M M' :=
  lg_39 (And.intro (hi 1 (by decide) (by decide)) <| And.intro (hi 2 (by decide) (by decide)) <| And.intro rfl <| And.intro (Nat.le_of_ble_eq_true rfl) <| Exists.intro _ <| Exists.intro _ <| And.intro (dv_X8_said_0 _ _ _ _ _ hX) <| And.intro rfl <| And.intro (hi 1 (by decide) (by decide)) <| And.intro (hi 2 (by decide) (by decide)) <| And.intro rfl <| And.intro (Nat.le_of_ble_eq_true rfl) <| Exists.intro _ <| Exists.intro _ <| And.intro (dv_X9_said_53 _ _ _ _ _ hY) <| And.intro rfl <| hK)
theorem dv_X8_calm_0 (v1 v2 : Int) (M M' : am_M) (x : Int) (h : X_X8_calm_0 v1 v2 M = some (x, M')) : am_Calls 142 [.inr (.inr (some 0)), .inl v1, .inl v2] SH M (some (.inl x)) SH M' := by
  have e := dc_X8_calm_0 v1 v2 M M' x h
  rw [show am_rk 142 = 1 from by decide +kernel] at e
  exact e
theorem dv_X9_calm_53 (v1 v2 : Int) (M M' : am_M) (x : Int) (h : X_X9_calm_53 v1 v2 M = some (x, M')) : am_Calls 255 [.inr (.inr (some 53)), .inl v1, .inl v2] SH M (some (.inl x)) SH M' := by
  have e := dc_X9_calm_53 v1 v2 M M' x h
  rw [show am_rk 255 = 1 from by decide +kernel] at e
  exact e
theorem lw_calm {L : Nat} {xs : Nat → Int} {i : Int} {M M1 M2 M' : am_M} {v w : Int} (hi : ∀ k : Int, 0 ≤ k → k < 6 → 0 ≤ wI (i + k) ∧ wI (i + k) < L) (hX : X_X8_calm_0 (xs (wI (i + 1)).toNat) (xs (wI (i + 2)).toNat) M = some (v, M1)) (hY : X_X9_calm_53 (xs (wI (i + 1)).toNat) (xs (wI (i + 2)).toNat) M1 = some (w, M2)) (hK : LwB L xs 52 i M2 M') : LwB L xs 40 i M M' :=
  lg_40 (And.intro (hi 1 (by decide) (by decide)) <| And.intro (hi 2 (by decide) (by decide)) <| And.intro rfl <| And.intro (Nat.le_of_ble_eq_true rfl) <| Exists.intro _ <| Exists.intro _ <| And.intro (dv_X8_calm_0 _ _ _ _ _ hX) <| And.intro rfl <| And.intro (hi 1 (by decide) (by decide)) <| And.intro (hi 2 (by decide) (by decide)) <| And.intro rfl <| And.intro (Nat.le_of_ble_eq_true rfl) <| Exists.intro _ <| Exists.intro _ <| And.intro (dv_X9_calm_53 _ _ _ _ _ hY) <| And.intro rfl <| hK)
theorem dv_X8_law_0 (v1 v2 : Int) (M M' : am_M) (x : Int) (h : X_X8_law_0 v1 v2 M = some (x, M')) : am_Calls 143 [.inr (.inr (some 0)), .inl v1, .inl v2] SH M (some (.inl x)) SH M' := by
  have e := dc_X8_law_0 v1 v2 M M' x h
  rw [show am_rk 143 = 1 from by decide +kernel] at e
  exact e
theorem dv_X9_law_53 (v1 v2 : Int) (M M' : am_M) (x : Int) (h : X_X9_law_53 v1 v2 M = some (x, M')) : am_Calls 256 [.inr (.inr (some 53)), .inl v1, .inl v2] SH M (some (.inl x)) SH M' := by
  have e := dc_X9_law_53 v1 v2 M M' x h
  rw [show am_rk 256 = 1 from by decide +kernel] at e
  exact e
theorem lw_law {L : Nat} {xs : Nat → Int} {i : Int} {M M1 M2 M' : am_M} {v w : Int} (hi : ∀ k : Int, 0 ≤ k → k < 6 → 0 ≤ wI (i + k) ∧ wI (i + k) < L) (hX : X_X8_law_0 (xs (wI (i + 1)).toNat) (xs (wI (i + 2)).toNat) M = some (v, M1)) (hY : X_X9_law_53 (xs (wI (i + 1)).toNat) (xs (wI (i + 2)).toNat) M1 = some (w, M2)) (hK : LwB L xs 52 i M2 M') : LwB L xs 41 i M M' :=
  lg_41 (And.intro (hi 1 (by decide) (by decide)) <| And.intro (hi 2 (by decide) (by decide)) <| And.intro rfl <| And.intro (Nat.le_of_ble_eq_true rfl) <| Exists.intro _ <| Exists.intro _ <| And.intro (dv_X8_law_0 _ _ _ _ _ hX) <| And.intro rfl <| And.intro (hi 1 (by decide) (by decide)) <| And.intro (hi 2 (by decide) (by decide)) <| And.intro rfl <| And.intro (Nat.le_of_ble_eq_true rfl) <| Exists.intro _ <| Exists.intro _ <| And.intro (dv_X9_law_53 _ _ _ _ _ hY) <| And.intro rfl <| hK)
theorem dv_X8_books_0 (v1 : Int) (M M' : am_M) (x : Int) (h : X_X8_books_0 v1 M = some (x, M')) : am_Calls 144 [.inr (.inr (some 0)), .inl v1] SH M (some (.inl x)) SH M' := by
  have e := dc_X8_books_0 v1 M M' x h
  rw [show am_rk 144 = 1 from by decide +kernel] at e
  exact e
theorem dv_X9_books_53 (v1 : Int) (M M' : am_M) (x : Int) (h : X_X9_books_53 v1 M = some (x, M')) : am_Calls 259 [.inr (.inr (some 53)), .inl v1] SH M (some (.inl x)) SH M' := by
  have e := dc_X9_books_53 v1 M M' x h
  rw [show am_rk 259 = 1 from by decide +kernel] at e
  exact e
theorem lw_books {L : Nat} {xs : Nat → Int} {i : Int} {M M1 M2 M' : am_M} {v w : Int} (hi : ∀ k : Int, 0 ≤ k → k < 6 → 0 ≤ wI (i + k) ∧ wI (i + k) < L) (hX : X_X8_books_0 (xs (wI (i + 1)).toNat) M = some (v, M1)) (hY : X_X9_books_53 (xs (wI (i + 1)).toNat) M1 = some (w, M2)) (hK : LwB L xs 52 i M2 M') : LwB L xs 42 i M M' :=
  lg_42 (And.intro (hi 1 (by decide) (by decide)) <| And.intro rfl <| And.intro (Nat.le_of_ble_eq_true rfl) <| Exists.intro _ <| Exists.intro _ <| And.intro (dv_X8_books_0 _ _ _ _ hX) <| And.intro rfl <| And.intro (hi 1 (by decide) (by decide)) <| And.intro rfl <| And.intro (Nat.le_of_ble_eq_true rfl) <| Exists.intro _ <| Exists.intro _ <| And.intro (dv_X9_books_53 _ _ _ _ hY) <| And.intro rfl <| hK)
theorem dv_X8_kinds_0 (v1 : Int) (M M' : am_M) (x : Int) (h : X_X8_kinds_0 v1 M = some (x, M')) : am_Calls 145 [.inr (.inr (some 0)), .inl v1] SH M (some (.inl x)) SH M' := by
  have e := dc_X8_kinds_0 v1 M M' x h
  rw [show am_rk 145 = 1 from by decide +kernel] at e
  exact e
theorem dv_X9_kinds_53 (v1 : Int) (M M' : am_M) (x : Int) (h : X_X9_kinds_53 v1 M = some (x, M')) : am_Calls 260 [.inr (.inr (some 53)), .inl v1] SH M (some (.inl x)) SH M' := by
  have e := dc_X9_kinds_53 v1 M M' x h
  rw [show am_rk 260 = 1 from by decide +kernel] at e
  exact e
theorem lw_kinds {L : Nat} {xs : Nat → Int} {i : Int} {M M1 M2 M' : am_M} {v w : Int} (hi : ∀ k : Int, 0 ≤ k → k < 6 → 0 ≤ wI (i + k) ∧ wI (i + k) < L) (hX : X_X8_kinds_0 (xs (wI (i + 1)).toNat) M = some (v, M1)) (hY : X_X9_kinds_53 (xs (wI (i + 1)).toNat) M1 = some (w, M2)) (hK : LwB L xs 52 i M2 M') : LwB L xs 43 i M M' :=
  lg_43 (And.intro (hi 1 (by decide) (by decide)) <| And.intro rfl <| And.intro (Nat.le_of_ble_eq_true rfl) <| Exists.intro _ <| Exists.intro _ <| And.intro (dv_X8_kinds_0 _ _ _ _ hX) <| And.intro rfl <| And.intro (hi 1 (by decide) (by decide)) <| And.intro rfl <| And.intro (Nat.le_of_ble_eq_true rfl) <| Exists.intro _ <| Exists.intro _ <| And.intro (dv_X9_kinds_53 _ _ _ _ hY) <| And.intro rfl <| hK)
theorem dv_X8_lots_0 (v1 v2 : Int) (M M' : am_M) (x : Int) (h : X_X8_lots_0 v1 v2 M = some (x, M')) : am_Calls 146 [.inr (.inr (some 0)), .inl v1, .inl v2] SH M (some (.inl x)) SH M' := by
  have e := dc_X8_lots_0 v1 v2 M M' x h
  rw [show am_rk 146 = 1 from by decide +kernel] at e
  exact e
theorem dv_X9_lots_53 (v1 v2 : Int) (M M' : am_M) (x : Int) (h : X_X9_lots_53 v1 v2 M = some (x, M')) : am_Calls 261 [.inr (.inr (some 53)), .inl v1, .inl v2] SH M (some (.inl x)) SH M' := by
  have e := dc_X9_lots_53 v1 v2 M M' x h
  rw [show am_rk 261 = 1 from by decide +kernel] at e
  exact e
theorem lw_lots {L : Nat} {xs : Nat → Int} {i : Int} {M M1 M2 M' : am_M} {v w : Int} (hi : ∀ k : Int, 0 ≤ k → k < 6 → 0 ≤ wI (i + k) ∧ wI (i + k) < L) (hX : X_X8_lots_0 (xs (wI (i + 1)).toNat) (xs (wI (i + 2)).toNat) M = some (v, M1)) (hY : X_X9_lots_53 (xs (wI (i + 1)).toNat) (xs (wI (i + 2)).toNat) M1 = some (w, M2)) (hK : LwB L xs 52 i M2 M') : LwB L xs 44 i M M' :=
  lg_44 (And.intro (hi 1 (by decide) (by decide)) <| And.intro (hi 2 (by decide) (by decide)) <| And.intro rfl <| And.intro (Nat.le_of_ble_eq_true rfl) <| Exists.intro _ <| Exists.intro _ <| And.intro (dv_X8_lots_0 _ _ _ _ _ hX) <| And.intro rfl <| And.intro (hi 1 (by decide) (by decide)) <| And.intro (hi 2 (by decide) (by decide)) <| And.intro rfl <| And.intro (Nat.le_of_ble_eq_true rfl) <| Exists.intro _ <| Exists.intro _ <| And.intro (dv_X9_lots_53 _ _ _ _ _ hY) <| And.intro rfl <| hK)
theorem dv_X8_asked_0 (M M' : am_M) (x : Int) (h : X_X8_asked_0 M = some (x, M')) : am_Calls 147 [.inr (.inr (some 0))] SH M (some (.inl x)) SH M' := by
  have e := dc_X8_asked_0 M M' x h
  rw [show am_rk 147 = 1 from by decide +kernel] at e
  exact e
theorem dv_X9_asked_53 (M M' : am_M) (x : Int) (h : X_X9_asked_53 M = some (x, M')) : am_Calls 262 [.inr (.inr (some 53))] SH M (some (.inl x)) SH M' := by
  have e := dc_X9_asked_53 M M' x h
  rw [show am_rk 262 = 1 from by decide +kernel] at e
  exact e
theorem lw_asked {L : Nat} {xs : Nat → Int} {i : Int} {M M1 M2 M' : am_M} {v w : Int} (hi : ∀ k : Int, 0 ≤ k → k < 6 → 0 ≤ wI (i + k) ∧ wI (i + k) < L) (hX : X_X8_asked_0 M = some (v, M1)) (hY : X_X9_asked_53 M1 = some (w, M2)) (hK : LwB L xs 52 i M2 M') : LwB L xs 45 i M M' :=
  lg_45 (And.intro rfl <| And.intro (Nat.le_of_ble_eq_true rfl) <| Exists.intro _ <| Exists.intro _ <| And.intro (dv_X8_asked_0 _ _ _ hX) <| And.intro rfl <| And.intro rfl <| And.intro (Nat.le_of_ble_eq_true rfl) <| Exists.intro _ <| Exists.intro _ <| And.intro (dv_X9_asked_53 _ _ _ hY) <| And.intro rfl <| hK)
theorem dv_X8_upper_0 (M M' : am_M) (x : Int) (h : X_X8_upper_0 M = some (x, M')) : am_Calls 148 [.inr (.inr (some 0))] SH M (some (.inr (.inl x))) SH M' := by
  have e := dc_X8_upper_0 M M' x h
  rw [show am_rk 148 = 2 from by decide +kernel] at e
  exact e
theorem dv_X9_upper_53 (M M' : am_M) (x : Int) (h : X_X9_upper_53 M = some (x, M')) : am_Calls 263 [.inr (.inr (some 53))] SH M (some (.inr (.inl x))) SH M' := by
  have e := dc_X9_upper_53 M M' x h
  rw [show am_rk 263 = 2 from by decide +kernel] at e
  exact e
theorem lw_upper {L : Nat} {xs : Nat → Int} {i : Int} {M M1 M2 M' : am_M} {v w : Int} (hi : ∀ k : Int, 0 ≤ k → k < 6 → 0 ≤ wI (i + k) ∧ wI (i + k) < L) (hX : X_X8_upper_0 M = some (v, M1)) (hY : X_X9_upper_53 M1 = some (w, M2)) (hK : LwB L xs 52 i M2 M') : LwB L xs 46 i M M' :=
  lg_46 (And.intro rfl <| And.intro (Nat.le_of_ble_eq_true rfl) <| Exists.intro _ <| Exists.intro _ <| And.intro (dv_X8_upper_0 _ _ _ hX) <| And.intro rfl <| And.intro rfl <| And.intro (Nat.le_of_ble_eq_true rfl) <| Exists.intro _ <| Exists.intro _ <| And.intro (dv_X9_upper_53 _ _ _ hY) <| And.intro rfl <| hK)
theorem dv_X8_lower_0 (M M' : am_M) (x : Int) (h : X_X8_lower_0 M = some (x, M')) : am_Calls 149 [.inr (.inr (some 0))] SH M (some (.inr (.inl x))) SH M' := by
  have e := dc_X8_lower_0 M M' x h
  rw [show am_rk 149 = 2 from by decide +kernel] at e
  exact e
theorem dv_X9_lower_53 (M M' : am_M) (x : Int) (h : X_X9_lower_53 M = some (x, M')) : am_Calls 264 [.inr (.inr (some 53))] SH M (some (.inr (.inl x))) SH M' := by
  have e := dc_X9_lower_53 M M' x h
  rw [show am_rk 264 = 2 from by decide +kernel] at e
  exact e
theorem lw_lower {L : Nat} {xs : Nat → Int} {i : Int} {M M1 M2 M' : am_M} {v w : Int} (hi : ∀ k : Int, 0 ≤ k → k < 6 → 0 ≤ wI (i + k) ∧ wI (i + k) < L) (hX : X_X8_lower_0 M = some (v, M1)) (hY : X_X9_lower_53 M1 = some (w, M2)) (hK : LwB L xs 52 i M2 M') : LwB L xs 47 i M M' :=
  lg_47 (And.intro rfl <| And.intro (Nat.le_of_ble_eq_true rfl) <| Exists.intro _ <| Exists.intro _ <| And.intro (dv_X8_lower_0 _ _ _ hX) <| And.intro rfl <| And.intro rfl <| And.intro (Nat.le_of_ble_eq_true rfl) <| Exists.intro _ <| Exists.intro _ <| And.intro (dv_X9_lower_53 _ _ _ hY) <| And.intro rfl <| hK)
theorem dv_X8_count_0 (v1 : Int) (M M' : am_M) (x : Int) (h : X_X8_count_0 v1 M = some (x, M')) : am_Calls 150 [.inr (.inr (some 0)), .inl v1] SH M (some (.inl x)) SH M' := by
  have e := dc_X8_count_0 v1 M M' x h
  rw [show am_rk 150 = 1 from by decide +kernel] at e
  exact e
theorem dv_X9_count_53 (v1 : Int) (M M' : am_M) (x : Int) (h : X_X9_count_53 v1 M = some (x, M')) : am_Calls 268 [.inr (.inr (some 53)), .inl v1] SH M (some (.inl x)) SH M' := by
  have e := dc_X9_count_53 v1 M M' x h
  rw [show am_rk 268 = 1 from by decide +kernel] at e
  exact e
theorem lw_count {L : Nat} {xs : Nat → Int} {i : Int} {M M1 M2 M' : am_M} {v w : Int} (hi : ∀ k : Int, 0 ≤ k → k < 6 → 0 ≤ wI (i + k) ∧ wI (i + k) < L) (hX : X_X8_count_0 (xs (wI (i + 1)).toNat) M = some (v, M1)) (hY : X_X9_count_53 (xs (wI (i + 1)).toNat) M1 = some (w, M2)) (hK : LwB L xs 52 i M2 M') : LwB L xs 48 i M M' :=
  lg_48 (And.intro (hi 1 (by decide) (by decide)) <| And.intro rfl <| And.intro (Nat.le_of_ble_eq_true rfl) <| Exists.intro _ <| Exists.intro _ <| And.intro (dv_X8_count_0 _ _ _ _ hX) <| And.intro rfl <| And.intro (hi 1 (by decide) (by decide)) <| And.intro rfl <| And.intro (Nat.le_of_ble_eq_true rfl) <| Exists.intro _ <| Exists.intro _ <| And.intro (dv_X9_count_53 _ _ _ _ hY) <| And.intro rfl <| hK)
theorem dv_X8_finding_0 (M M' : am_M) (x : Int) (h : X_X8_finding_0 M = some (x, M')) : am_Calls 151 [.inr (.inr (some 0))] SH M (some (.inl x)) SH M' := by
  have e := dc_X8_finding_0 M M' x h
  rw [show am_rk 151 = 1 from by decide +kernel] at e
  exact e
theorem dv_X9_finding_53 (M M' : am_M) (x : Int) (h : X_X9_finding_53 M = some (x, M')) : am_Calls 269 [.inr (.inr (some 53))] SH M (some (.inl x)) SH M' := by
  have e := dc_X9_finding_53 M M' x h
  rw [show am_rk 269 = 1 from by decide +kernel] at e
  exact e
theorem lw_finding {L : Nat} {xs : Nat → Int} {i : Int} {M M1 M2 M' : am_M} {v w : Int} (hi : ∀ k : Int, 0 ≤ k → k < 6 → 0 ≤ wI (i + k) ∧ wI (i + k) < L) (hX : X_X8_finding_0 M = some (v, M1)) (hY : X_X9_finding_53 M1 = some (w, M2)) (hK : LwB L xs 52 i M2 M') : LwB L xs 49 i M M' :=
  lg_49 (And.intro rfl <| And.intro (Nat.le_of_ble_eq_true rfl) <| Exists.intro _ <| Exists.intro _ <| And.intro (dv_X8_finding_0 _ _ _ hX) <| And.intro rfl <| And.intro rfl <| And.intro (Nat.le_of_ble_eq_true rfl) <| Exists.intro _ <| Exists.intro _ <| And.intro (dv_X9_finding_53 _ _ _ hY) <| And.intro rfl <| hK)
theorem dv_X8_findings_0 (v1 : Int) (M M' : am_M) (x : Int) (h : X_X8_findings_0 v1 M = some (x, M')) : am_Calls 152 [.inr (.inr (some 0)), .inl v1] SH M (some (.inl x)) SH M' := by
  have e := dc_X8_findings_0 v1 M M' x h
  rw [show am_rk 152 = 1 from by decide +kernel] at e
  exact e
theorem dv_X9_findings_53 (v1 : Int) (M M' : am_M) (x : Int) (h : X_X9_findings_53 v1 M = some (x, M')) : am_Calls 270 [.inr (.inr (some 53)), .inl v1] SH M (some (.inl x)) SH M' := by
  have e := dc_X9_findings_53 v1 M M' x h
  rw [show am_rk 270 = 1 from by decide +kernel] at e
  exact e
theorem lw_findings {L : Nat} {xs : Nat → Int} {i : Int} {M M1 M2 M' : am_M} {v w : Int} (hi : ∀ k : Int, 0 ≤ k → k < 6 → 0 ≤ wI (i + k) ∧ wI (i + k) < L) (hX : X_X8_findings_0 (xs (wI (i + 1)).toNat) M = some (v, M1)) (hY : X_X9_findings_53 (xs (wI (i + 1)).toNat) M1 = some (w, M2)) (hK : LwB L xs 52 i M2 M') : LwB L xs 50 i M M' :=
  lg_50 (And.intro (hi 1 (by decide) (by decide)) <| And.intro rfl <| And.intro (Nat.le_of_ble_eq_true rfl) <| Exists.intro _ <| Exists.intro _ <| And.intro (dv_X8_findings_0 _ _ _ _ hX) <| And.intro rfl <| And.intro (hi 1 (by decide) (by decide)) <| And.intro rfl <| And.intro (Nat.le_of_ble_eq_true rfl) <| Exists.intro _ <| Exists.intro _ <| And.intro (dv_X9_findings_53 _ _ _ _ hY) <| And.intro rfl <| hK)
theorem dv_X8_digest_0 (M M' : am_M) (x : Int) (h : X_X8_digest_0 M = some (x, M')) : am_Calls 153 [.inr (.inr (some 0))] SH M (some (.inr (.inl x))) SH M' := by
  have e := dc_X8_digest_0 M M' x h
  rw [show am_rk 153 = 2 from by decide +kernel] at e
  exact e
theorem dv_X9_digest_53 (M M' : am_M) (x : Int) (h : X_X9_digest_53 M = some (x, M')) : am_Calls 271 [.inr (.inr (some 53))] SH M (some (.inr (.inl x))) SH M' := by
  have e := dc_X9_digest_53 M M' x h
  rw [show am_rk 271 = 2 from by decide +kernel] at e
  exact e
theorem lw_digest {L : Nat} {xs : Nat → Int} {i : Int} {M M1 M2 M' : am_M} {v w : Int} (hi : ∀ k : Int, 0 ≤ k → k < 6 → 0 ≤ wI (i + k) ∧ wI (i + k) < L) (hX : X_X8_digest_0 M = some (v, M1)) (hY : X_X9_digest_53 M1 = some (w, M2)) (hK : LwB L xs 52 i M2 M') : LwB L xs 51 i M M' :=
  lg_51 (And.intro rfl <| And.intro (Nat.le_of_ble_eq_true rfl) <| Exists.intro _ <| Exists.intro _ <| And.intro (dv_X8_digest_0 _ _ _ hX) <| And.intro rfl <| And.intro rfl <| And.intro (Nat.le_of_ble_eq_true rfl) <| Exists.intro _ <| Exists.intro _ <| And.intro (dv_X9_digest_53 _ _ _ hY) <| And.intro rfl <| hK)
