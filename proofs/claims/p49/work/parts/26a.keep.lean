section
/-! What is kept: memory that agrees but for scratch; the land as both sides have it. -/
noncomputable def Kp (M M' : am_M) : Prop := (∀ a, (a ≤ 6 ∨ (9 ≤ a ∧ a ≤ 35) ∨ a = 52 ∨ (55 ≤ a ∧ a ≤ 61)) → M' a = M a) ∧ (∀ j, (j = 1 ∨ (8 ≤ j ∧ j ≤ 11)) → M' 53 j = M 53 j) ∧ ∀ j, j < 484 → M' 54 j = M 54 j
theorem Kp.rf (M : am_M) : Kp M M := ⟨fun _ _ => rfl, fun _ _ => rfl, fun _ _ => rfl⟩
theorem Kp.tr {M M1 M2 : am_M} (h : Kp M M1) (g : Kp M1 M2) : Kp M M2 := ⟨fun a q => (g.1 a q).trans (h.1 a q), fun j q => (g.2.1 j q).trans (h.2.1 j q), fun j q => (g.2.2 j q).trans (h.2.2 j q)⟩
theorem Kp.row {M : am_M} {a : Nat} {f : Nat → Int} (h : a = 7 ∨ a = 8 ∨ (36 ≤ a ∧ a ≤ 51) ∨ 62 ≤ a) : Kp M (am_row M a f) :=
  ⟨fun b q => row_a (by omega), fun j _ => by rw [row_a (by omega)], fun j _ => by rw [row_a (by omega)]⟩
theorem Kp.up {M : am_M} {a k : Nat} {x : Int} (h : a = 7 ∨ a = 8 ∨ (36 ≤ a ∧ a ≤ 51) ∨ 62 ≤ a) : Kp M (am_up M a k x) :=
  ⟨fun b q => up_a (by omega), fun j _ => by rw [up_a (by omega)], fun j _ => by rw [up_a (by omega)]⟩
theorem Kp.up53 {M : am_M} {k : Nat} {x : Int} (h : k ≠ 1 ∧ (k < 8 ∨ 11 < k)) : Kp M (am_up M 53 k x) :=
  ⟨fun b q => up_a (by omega), fun j q => up_j (by omega), fun j _ => by rw [up_a (by decide)]⟩
theorem Kp.row54 {M : am_M} {f : Nat → Int} (h : ∀ j, j < 484 → f j = M 54 j) : Kp M (am_row M 54 f) :=
  ⟨fun b q => row_a (by omega), fun j _ => by rw [row_a (by decide)], fun j q => by rw [row_s]; exact h j q⟩
theorem Kp.up54 {M : am_M} {k : Nat} {x : Int} (h : 484 ≤ k) : Kp M (am_up M 54 k x) :=
  ⟨fun b q => up_a (by omega), fun j _ => by rw [up_a (by decide)], fun j q => up_j (by omega)⟩
theorem Kp.inv {M M' : am_M} (I : Inv M) (h : Kp M M') : Inv M' := by
  obtain ⟨h1, h2, h3⟩ := h
  have hs := I.2.2.2.1.2.2.1
  have d0 := DI_L (L' := M' 54) hs I.2.2.2.2.1 (fun j _ q => h3 j (by omega))
  have k1 := KpI_L (L' := M' 54) hs I.2.2.2.2.2.1.1 (fun j _ q => h3 j (by omega))
  have k2 := KpI_L (L' := M' 54) hs I.2.2.2.2.2.1.2.1 (fun j _ q => h3 j (by omega))
  have k3 := KpI_L (L' := M' 54) hs I.2.2.2.2.2.1.2.2 (fun j _ q => h3 j (by omega))
  obtain ⟨t1, t2, t3, t4, t5⟩ := I.2.2.2.2.2.2
  have g : ∀ a, (a ≤ 6 ∨ (9 ≤ a ∧ a ≤ 35) ∨ a = 52 ∨ (55 ≤ a ∧ a ≤ 61)) → M' a = M a := h1
  unfold Inv TlI
  rw [g 0 (by decide), g 1 (by decide), g 2 (by decide), g 3 (by decide), g 4 (by decide), g 5 (by decide), g 6 (by decide), g 9 (by decide), g 10 (by decide), g 11 (by decide), g 12 (by decide), g 13 (by decide), g 14 (by decide), g 15 (by decide), g 16 (by decide), g 17 (by decide), g 18 (by decide), g 20 (by decide), g 21 (by decide), g 22 (by decide), g 23 (by decide), g 24 (by decide), g 25 (by decide), g 26 (by decide), g 27 (by decide), g 28 (by decide), g 29 (by decide), g 30 (by decide), g 31 (by decide), g 32 (by decide), g 33 (by decide), g 34 (by decide), g 35 (by decide), g 52 (by decide), g 55 (by decide), g 56 (by decide), g 57 (by decide), g 58 (by decide), g 59 (by decide), g 60 (by decide), g 61 (by decide), h2 1 (by decide), h2 8 (by decide), h2 9 (by decide), h2 10 (by decide), h2 11 (by decide)]
  exact ⟨I.1, I.2.1, I.2.2.1, I.2.2.2.1, d0, ⟨k1, k2, k3⟩, t1, t2, t3, t4, t5⟩
theorem st_kp {X Y : am_M → am_Rs} {M M1 M2 : am_M} (I : Inv M) {v w : Int} (h1 : X M = some (v, M1)) (k1 : Kp M M1) (h2 : Y M1 = some (w, M2)) (k2 : Kp M1 M2) (h : wI v = wI w) : Step X Y M := ⟨v, w, M1, M2, h1, h2, h, Kp.inv I (k1.tr k2)⟩
/-- the invariant but for what is told -/
noncomputable def Ib (M : am_M) : Prop := CnI (M 1) (M 4) ∧ RwI (M 2) (M 3) (M 57) (M 58) ∧ TxI (M 5) (M 6) (M 59) (M 60) ∧ GrI (M 9) (M 10) (M 11 0) (M 12) (M 13) (M 53 1) (M 55) (M 56) ∧ DI (M 11 0) (M 12) (M 13) (M 14) (M 15) (M 16) (M 17) (M 18) (M 54) 0
theorem Inv.b {M : am_M} (I : Inv M) : Ib M := ⟨I.1, I.2.1, I.2.2.1, I.2.2.2.1, I.2.2.2.2.1⟩
theorem Ib.sh1 {M : am_M} (I : Ib M) : Sh1 M := ⟨I.1.1, I.1.2.1, I.1.2.2.1, I.2.1.2.1⟩
theorem Ib.sh4 {M : am_M} (I : Ib M) : Sh4 M := ⟨I.1.2.2.2.1, I.1.2.2.2.2.1, I.1.2.2.2.2.2, I.2.2.1.2.1⟩
theorem Ib.g11 {M : am_M} (I : Ib M) : Gd11 M := ⟨by have := I.2.2.2.1.2.1; omega, I.2.2.2.1.2.2.1, I.2.2.2.1.2.2.2.1, I.2.2.2.1.2.2.2.2.1⟩
theorem Ib.gM {M : am_M} (I : Ib M) : GdM M := ⟨by have := I.2.2.2.1.1; have := I.2.2.2.1.2.1; omega, by have := I.2.2.2.1.1; have := I.2.2.2.1.2.2.1; omega, I.2.2.2.1.2.2.2.2.2.1, I.2.2.2.1.2.2.2.2.2.2.1⟩
/-- memory that agrees but for scratch and what is told -/
noncomputable def Kb (M M' : am_M) : Prop := (∀ a, ((1 ≤ a ∧ a ≤ 6) ∨ (9 ≤ a ∧ a ≤ 18) ∨ (55 ≤ a ∧ a ≤ 60)) → M' a = M a) ∧ M' 53 1 = M 53 1 ∧ ∀ j, j < 121 → M' 54 j = M 54 j
theorem Kb.rf (M : am_M) : Kb M M := ⟨fun _ _ => rfl, rfl, fun _ _ => rfl⟩
theorem Kb.tr {M M1 M2 : am_M} (h : Kb M M1) (g : Kb M1 M2) : Kb M M2 := ⟨fun a q => (g.1 a q).trans (h.1 a q), g.2.1.trans h.2.1, fun j q => (g.2.2 j q).trans (h.2.2 j q)⟩
theorem Kp.b {M M' : am_M} (h : Kp M M') : Kb M M' := ⟨fun a q => h.1 a (by omega), h.2.1 1 (by decide), fun j q => h.2.2 j (by omega)⟩
theorem Kb.ib {M M' : am_M} (I : Ib M) (h : Kb M M') : Ib M' := by
  obtain ⟨g, h2, h3⟩ := h
  have hs := I.2.2.2.1.2.2.1
  have d0 := DI_L (L' := M' 54) hs I.2.2.2.2 (fun j _ q => h3 j (by omega))
  unfold Ib
  rw [g 1 (by decide), g 2 (by decide), g 3 (by decide), g 4 (by decide), g 5 (by decide), g 6 (by decide), g 9 (by decide), g 10 (by decide), g 11 (by decide), g 12 (by decide), g 13 (by decide), g 14 (by decide), g 15 (by decide), g 16 (by decide), g 17 (by decide), g 18 (by decide), g 55 (by decide), g 56 (by decide), g 57 (by decide), g 58 (by decide), g 59 (by decide), g 60 (by decide), h2]
  exact ⟨I.1, I.2.1, I.2.2.1, I.2.2.2.1, d0⟩
theorem Kb.ct (M : am_M) (v : Int) : Kb M (cT v M) := ⟨fun a q => up_a (by omega), rfl, fun _ _ => rfl⟩
theorem Kb.cf (M : am_M) (f : Nat) : Kb M (cF f M) := ⟨fun a q => by unfold cF; rw [up_a (by omega), up_a (by omega)], rfl, fun _ _ => rfl⟩
/-- the numbers of the land: 53's and 54's are 11's and 14's -/
theorem Ib.es {M : am_M} (I : Ib M) : M 53 1 = M 11 0 := I.2.2.2.1.1
theorem Ib.d0 {M : am_M} (I : Ib M) : M 54 0 = M 14 0 := I.2.2.2.2.1.1
theorem Ib.d1 {M : am_M} (I : Ib M) : M 54 1 = M 14 1 := I.2.2.2.2.1.2.2.1
theorem Ib.d2 {M : am_M} (I : Ib M) : M 54 2 = M 14 2 := I.2.2.2.2.1.2.2.2.2.1
theorem Ib.d3 {M : am_M} (I : Ib M) : M 54 3 = M 14 3 := I.2.2.2.2.1.2.2.2.2.2.1
theorem Ib.r0 {M : am_M} (I : Ib M) : 0 ≤ M 14 0 ∧ M 14 0 ≤ 40 := I.2.2.2.2.1.2.1
theorem Ib.r1 {M : am_M} (I : Ib M) : 0 ≤ M 14 1 ∧ M 14 1 ≤ M 11 0 := I.2.2.2.2.1.2.2.2.1
theorem Ib.r2 {M : am_M} (I : Ib M) : 0 ≤ M 14 2 ∧ M 14 2 ≤ 9 := I.2.2.2.2.1.2.2.2.2.2.2.1
theorem Ib.r3 {M : am_M} (I : Ib M) : 0 ≤ M 14 3 ∧ M 14 3 ≤ 9 := I.2.2.2.2.1.2.2.2.2.2.2.2.1
theorem Ib.rs {M : am_M} (I : Ib M) : 0 ≤ M 11 0 ∧ M 11 0 ≤ 12 := ⟨I.g11.1, I.g11.2.1⟩
theorem Ib.kd {M : am_M} (I : Ib M) {i : Nat} (h : (i : Int) < M 11 0) : M 55 i = M 12 i := (I.2.2.2.1.2.2.2.2.2.2.2.1 i h).1
theorem Ib.du {M : am_M} (I : Ib M) {i : Nat} (h : (i : Int) < M 11 0) : M 56 i = M 13 i := (I.2.2.2.1.2.2.2.2.2.2.2.1 i h).2
theorem Inv.es {M : am_M} (I : Inv M) : M 53 1 = M 11 0 := I.b.es
theorem Inv.d0 {M : am_M} (I : Inv M) : M 54 0 = M 14 0 := I.b.d0
theorem Inv.d1 {M : am_M} (I : Inv M) : M 54 1 = M 14 1 := I.b.d1
theorem Inv.d2 {M : am_M} (I : Inv M) : M 54 2 = M 14 2 := I.b.d2
theorem Inv.d3 {M : am_M} (I : Inv M) : M 54 3 = M 14 3 := I.b.d3
theorem Inv.r0 {M : am_M} (I : Inv M) : 0 ≤ M 14 0 ∧ M 14 0 ≤ 40 := I.b.r0
theorem Inv.r1 {M : am_M} (I : Inv M) : 0 ≤ M 14 1 ∧ M 14 1 ≤ M 11 0 := I.b.r1
theorem Inv.r2 {M : am_M} (I : Inv M) : 0 ≤ M 14 2 ∧ M 14 2 ≤ 9 := I.b.r2
theorem Inv.r3 {M : am_M} (I : Inv M) : 0 ≤ M 14 3 ∧ M 14 3 ≤ 9 := I.b.r3
theorem Inv.rs {M : am_M} (I : Inv M) : 0 ≤ M 11 0 ∧ M 11 0 ≤ 12 := I.b.rs
theorem Inv.kd {M : am_M} (I : Inv M) {i : Nat} (h : (i : Int) < M 11 0) : M 55 i = M 12 i := I.b.kd h
theorem Inv.du {M : am_M} (I : Inv M) {i : Nat} (h : (i : Int) < M 11 0) : M 56 i = M 13 i := I.b.du h
/-- the land and the day's numbers alone -/
noncomputable def Ic (M : am_M) : Prop := GrI (M 9) (M 10) (M 11 0) (M 12) (M 13) (M 53 1) (M 55) (M 56) ∧ DyO (M 11 0) (M 14) (M 54) 0
theorem Ib.c {M : am_M} (I : Ib M) : Ic M := ⟨I.2.2.2.1, I.2.2.2.2.1⟩
theorem Ic.g11 {M : am_M} (I : Ic M) : Gd11 M := ⟨by have := I.1.2.1; omega, I.1.2.2.1, I.1.2.2.2.1, I.1.2.2.2.2.1⟩
theorem Ic.gM {M : am_M} (I : Ic M) : GdM M := ⟨by have := I.1.1; have := I.1.2.1; omega, by have := I.1.1; have := I.1.2.2.1; omega, I.1.2.2.2.2.2.1, I.1.2.2.2.2.2.2.1⟩
theorem Ic.es {M : am_M} (I : Ic M) : M 53 1 = M 11 0 := I.1.1
theorem Ic.d0 {M : am_M} (I : Ic M) : M 54 0 = M 14 0 := I.2.1
theorem Ic.d1 {M : am_M} (I : Ic M) : M 54 1 = M 14 1 := I.2.2.2.1
theorem Ic.d2 {M : am_M} (I : Ic M) : M 54 2 = M 14 2 := I.2.2.2.2.2.1
theorem Ic.d3 {M : am_M} (I : Ic M) : M 54 3 = M 14 3 := I.2.2.2.2.2.2.1
theorem Ic.r0 {M : am_M} (I : Ic M) : 0 ≤ M 14 0 ∧ M 14 0 ≤ 40 := I.2.2.1
theorem Ic.r1 {M : am_M} (I : Ic M) : 0 ≤ M 14 1 ∧ M 14 1 ≤ M 11 0 := I.2.2.2.2.1
theorem Ic.r2 {M : am_M} (I : Ic M) : 0 ≤ M 14 2 ∧ M 14 2 ≤ 9 := I.2.2.2.2.2.2.2.1
theorem Ic.r3 {M : am_M} (I : Ic M) : 0 ≤ M 14 3 ∧ M 14 3 ≤ 9 := I.2.2.2.2.2.2.2.2.1
theorem Ic.rs {M : am_M} (I : Ic M) : 0 ≤ M 11 0 ∧ M 11 0 ≤ 12 := ⟨I.g11.1, I.g11.2.1⟩
theorem Ic.kd {M : am_M} (I : Ic M) {i : Nat} (h : (i : Int) < M 11 0) : M 55 i = M 12 i := (I.1.2.2.2.2.2.2.2.1 i h).1
theorem Ic.du {M : am_M} (I : Ic M) {i : Nat} (h : (i : Int) < M 11 0) : M 56 i = M 13 i := (I.1.2.2.2.2.2.2.2.1 i h).2
/-- memory that agrees on the land and the day's numbers -/
noncomputable def Kc (M M' : am_M) : Prop := (∀ a, ((9 ≤ a ∧ a ≤ 14) ∨ a = 55 ∨ a = 56) → M' a = M a) ∧ M' 53 1 = M 53 1 ∧ ∀ j, j < 4 → M' 54 j = M 54 j
theorem Kc.rf (M : am_M) : Kc M M := ⟨fun _ _ => rfl, rfl, fun _ _ => rfl⟩
theorem Kc.tr {M M1 M2 : am_M} (h : Kc M M1) (g : Kc M1 M2) : Kc M M2 := ⟨fun a q => (g.1 a q).trans (h.1 a q), g.2.1.trans h.2.1, fun j q => (g.2.2 j q).trans (h.2.2 j q)⟩
theorem Kb.c {M M' : am_M} (h : Kb M M') : Kc M M' := ⟨fun a q => h.1 a (by omega), h.2.1, fun j q => h.2.2 j (by omega)⟩
theorem Kc.row {M : am_M} {a : Nat} {f : Nat → Int} (h : ¬ ((9 ≤ a ∧ a ≤ 14) ∨ (53 ≤ a ∧ a ≤ 56))) : Kc M (am_row M a f) :=
  ⟨fun b q => row_a (by omega), by rw [row_a (by omega)], fun j _ => by rw [row_a (by omega)]⟩
theorem Kc.up {M : am_M} {a k : Nat} {x : Int} (h : ¬ ((9 ≤ a ∧ a ≤ 14) ∨ (53 ≤ a ∧ a ≤ 56))) : Kc M (am_up M a k x) :=
  ⟨fun b q => up_a (by omega), by rw [up_a (by omega)], fun j _ => by rw [up_a (by omega)]⟩
theorem Kc.up53 {M : am_M} {k : Nat} {x : Int} (h : k ≠ 1) : Kc M (am_up M 53 k x) :=
  ⟨fun b q => up_a (by omega), up_j (by omega), fun j _ => by rw [up_a (by decide)]⟩
theorem Kc.ic {M M' : am_M} (I : Ic M) (h : Kc M M') : Ic M' := by
  obtain ⟨g, h2, h3⟩ := h
  unfold Ic DyO
  rw [g 9 (by decide), g 10 (by decide), g 11 (by decide), g 12 (by decide), g 13 (by decide), g 14 (by decide), g 55 (by decide), g 56 (by decide), h2, h3 0 (by decide), h3 (0 + 1) (by decide), h3 (0 + 2) (by decide), h3 (0 + 3) (by decide)]
  exact I
/-- the land's moves and dues, as both sides have them -/
noncomputable def mv_ (M : am_M) (b m d : Int) : Int := rud (M 11 0) (M 12) b m d
noncomputable def af_ (M : am_M) (b d x y : Int) : Int := aft (M 11 0) (M 12) b d x y
noncomputable def du_ (M : am_M) (c i b : Int) : Int := due (M 12) (M 13) c i b (if c = 0 then M 14 2 else M 14 3)
theorem Ic.qrud {M : am_M} (I : Ic M) (b m d : Int) : rud (M 53 1) (M 55) b m d = mv_ M b m d := by rw [I.es]; exact rud_c (fun i h => I.kd h) b m d
theorem Ic.qaft {M : am_M} (I : Ic M) (b d x y : Int) : aft (M 53 1) (M 55) b d x y = af_ M b d x y := by rw [I.es]; exact aft_c (fun i h => I.kd h) b d x y
theorem kc_rud {M : am_M} (I : Ic M) {b m d : Int} (hb : 0 ≤ b ∧ b ≤ M 11 0) (hm : -1 ≤ m ∧ m ≤ 1) (hd : 0 ≤ d ∧ d < 1000) : X_X2_rudeness_11 b m d M = some (mv_ M b m d, M) := sp_rudeness_11 I.g11 hb hm hd
theorem kc_aft {M : am_M} (I : Ic M) {b d x y : Int} (hb : 0 ≤ b ∧ b ≤ M 11 0) (hd : 0 ≤ d ∧ d < 1000) (hx : 0 ≤ x ∧ x ≤ 3) (hy : 0 ≤ y ∧ y ≤ 3) : X_X2_borderAfter_11 b d x y M = some (af_ M b d x y, M) := sp_borderAfter_11 I.g11 hb hd hx hy
theorem km_aft {M : am_M} (I : Ic M) {b d x y : Int} (hb : 0 ≤ b ∧ b ≤ M 11 0) (hd : 0 ≤ d ∧ d < 1000) (hx : 0 ≤ x ∧ x ≤ 3) (hy : 0 ≤ y ∧ y ≤ 3) : X_X9_behind_53 b d x y M = some (af_ M b d x y, M) := by
  rw [sp_behind I.gM (by rw [I.es]; exact hb) hd hx hy, I.qaft]
theorem mv_r (M : am_M) (b m d : Int) : -1 ≤ mv_ M b m d ∧ mv_ M b m d ≤ 2 := rud_r _ _ _ _ _
theorem mv_0 (M : am_M) (b d : Int) : mv_ M b 0 d = 0 := rfl
theorem mv_in {M : am_M} {b m d : Int} (hm : m = -1 ∨ m = 0 ∨ m = 1) (hb : 0 ≤ b ∧ b ≤ M 11 0) (h : mv_ M b m d ≠ -1) : 0 ≤ b + m ∧ b + m ≤ M 11 0 := by
  unfold mv_ rud at h
  rcases hm with rfl | rfl | rfl
  · rw [if_neg (by decide)] at h
    split at h
    · exact absurd rfl h
    · rename_i q; unfold crs at q; rw [if_pos (by decide)] at q; omega
  · omega
  · rw [if_neg (by decide)] at h
    split at h
    · exact absurd rfl h
    · rename_i q; unfold crs at q; rw [if_neg (by decide)] at q; omega
theorem af_r {M : am_M} {b d x y : Int} (hb : 0 ≤ b ∧ b ≤ M 11 0) : 0 ≤ af_ M b d x y ∧ af_ M b d x y ≤ M 11 0 := aft_r hb
theorem kdu_r {M : am_M} (I : Ic M) (c i b : Int) : 0 ≤ du_ M c i b ∧ du_ M c i b ≤ 162 := by
  unfold du_
  refine due_r I.g11.2.2.2 ?_
  split
  · exact I.r2
  · exact I.r3
theorem kc_due0 {M : am_M} (I : Ic M) {i b : Int} (hi : 0 ≤ i ∧ i < M 11 0) (hb : 0 ≤ b ∧ b ≤ 12) : X_X2_dueTo_11 0 i b (M 14 2) M = some (du_ M 0 i b, M) := sp_dueTo_11 I.g11 (by decide) hi hb I.r2
theorem kc_due1 {M : am_M} (I : Ic M) {i b : Int} (hi : 0 ≤ i ∧ i < M 11 0) (hb : 0 ≤ b ∧ b ≤ 12) : X_X2_dueTo_11 1 i b (M 14 3) M = some (du_ M 1 i b, M) := sp_dueTo_11 I.g11 (by decide) hi hb I.r3
theorem km_due0 {M : am_M} (I : Ic M) {i b : Int} (hi : 0 ≤ i ∧ i < M 11 0) (hb : 0 ≤ b ∧ b ≤ 12) : X_X9_paysTo_53 i 0 b (M 54 2) M = some (du_ M 0 i b, M) := by
  have h := I.rs
  rw [I.d2, sp_paysTo I.gM (by decide) (by omega) hb I.r2, due_c (I.kd (by omega)) (I.du (by omega))]
  rfl
theorem km_due1 {M : am_M} (I : Ic M) {i b : Int} (hi : 0 ≤ i ∧ i < M 11 0) (hb : 0 ≤ b ∧ b ≤ 12) : X_X9_paysTo_53 i 1 b (M 54 3) M = some (du_ M 1 i b, M) := by
  have h := I.rs
  rw [I.d3, sp_paysTo I.gM (by decide) (by omega) hb I.r3, due_c (I.kd (by omega)) (I.du (by omega))]
  rfl
theorem kc_both {M : am_M} (I : Ic M) {i b : Int} (hi : 0 ≤ i ∧ i < M 11 0) (hb : 0 ≤ b ∧ b ≤ 12) : X_X1_dueOfBoth_14_11 i b M = some (du_ M 0 i b + du_ M 1 i b, M) := by
  rw [X_X1_dueOfBoth_14_11, kc_due0 I hi hb, ob]
  dsimp only
  rw [kc_due1 I hi hb, ob]
theorem km_both {M : am_M} (I : Ic M) {i b : Int} (hi : 0 ≤ i ∧ i < M 11 0) (hb : 0 ≤ b ∧ b ≤ 12) : (X_X9_paysTo_53 i 0 b (M 54 2) M).bind (fun z1 => (X_X9_paysTo_53 i 1 b (z1.2 54 3) z1.2).bind fun z2 => some (z1.1 + z2.1, z2.2)) = some (du_ M 0 i b + du_ M 1 i b, M) := by
  rw [km_due0 I hi hb, ob]
  dsimp only
  rw [km_due1 I hi hb, ob]
theorem mv_nz {M : am_M} {b m d : Int} (hm : m ≠ 0) : mv_ M b m d = -1 ∨ mv_ M b m d = 1 ∨ mv_ M b m d = 2 := by
  unfold mv_ rud
  rw [if_neg hm]
  repeat' split
  all_goals omega
/-- the least rudeness of a move, as the reference tells it -/
noncomputable def mr_ (x : Int) : Int := if x = -1 then -9 else x
theorem mr_sel {M : am_M} {r z1 z2 t : Int} (hr : r = -1 ∨ r = 1 ∨ r = 2) (k1 : z1 = t ↔ (r ≠ -1 ∧ r ≤ 1)) (k2 : z2 = t ↔ (r ≠ -1 ∧ r ≤ 2)) : (if z1 = t then some ((1 : Int), M) else if z2 = t then some (2, M) else some (-9, M)) = some (mr_ r, M) := by
  rcases hr with rfl | rfl | rfl
  · rw [if_neg (fun h => (k1.mp h).1 rfl), if_neg (fun h => (k2.mp h).1 rfl)]; rfl
  · rw [if_pos (k1.mpr (by decide))]; rfl
  · rw [if_neg (fun h => absurd (k1.mp h).2 (by decide)), if_pos (k2.mpr (by decide))]; rfl
theorem km_rud {M : am_M} (I : Ic M) {b m d : Int} (hb : 0 ≤ b ∧ b ≤ M 11 0) (hm : -1 ≤ m ∧ m ≤ 1) (hd : 0 ≤ d ∧ d < 1000) : X_X9_rudeness_53 b d m M = some (mr_ (mv_ M b m d), M) := by
  have hs := I.rs
  have key : ∀ y : Int, 1 ≤ y ∧ y ≤ 2 → ∀ (x1 x2 : Int), cmp_ x2 x1 = m → gap_ x1 x2 = y → m ≠ 0 → (af_ M b d x1 x2 = b + m ↔ (mv_ M b m d ≠ -1 ∧ mv_ M b m d ≤ y)) := by
    intro y hy x1 x2 h1 h2 h3
    unfold af_ mv_ aft
    rw [h1, h2]
    generalize rud (M 11 0) (M 12) b m d = r
    constructor
    · intro q
      split at q
      · exfalso; omega
      · rename_i w; omega
    · intro q
      rw [if_neg (by omega)]
  rcases (show m = -1 ∨ m = 0 ∨ m = 1 by omega) with rfl | rfl | rfl
  · have k1 := key 1 (by decide) 1 0 rfl rfl (by decide)
    have k2 := key 2 (by decide) 2 0 rfl rfl (by decide)
    have a1 := af_r (M := M) (b := b) (d := d) (x := 1) (y := 0) hb
    have a2 := af_r (M := M) (b := b) (d := d) (x := 2) (y := 0) hb
    have hr := mv_nz (M := M) (b := b) (m := -1) (d := d) (by decide)
    generalize mv_ M b (-1) d = r at hr k1 k2 ⊢
    rw [X_X9_rudeness_53, XB_X9_rudeness_53_e, if_neg (by decide), XL_X9_rudeness_53_3, XB_X9_rudeness_53_3, if_pos (by decide), if_pos (by decide), if_pos (by decide), km_aft I hb hd (show (0 : Int) ≤ 1 ∧ (1 : Int) ≤ 3 by decide) (show (0 : Int) ≤ 0 ∧ (0 : Int) ≤ 3 by decide), ob, XL_X9_rudeness_53_3, XB_X9_rudeness_53_3, if_pos (show wI (1 + 1) < 3 by decide), if_pos (show wI (-1) < 0 by decide), if_pos (show wI (-1) < 0 by decide), show (1 : Int) + 1 = 2 from rfl, km_aft I hb hd (show (0 : Int) ≤ 2 ∧ (2 : Int) ≤ 3 by decide) (show (0 : Int) ≤ 0 ∧ (0 : Int) ≤ 3 by decide), ob, XL_X9_rudeness_53_3, XB_X9_rudeness_53_3, if_neg (show ¬ wI (2 + 1) < 3 by decide), XB_X9_rudeness_53_13]
    dsimp only
    generalize af_ M b d 1 0 = z1 at k1 a1 ⊢
    generalize af_ M b d 2 0 = z2 at k2 a2 ⊢
    rw [wI_of (x := z1) (by omega) (by omega), wI_of (x := z2) (by omega) (by omega), wI_of (x := b + -1) (by omega) (by omega)]
    exact mr_sel hr k1 k2
  · rw [mv_0]
    simp only [X_X9_rudeness_53, XB_X9_rudeness_53_e, wI_0, if_true]
    rfl
  · have k1 := key 1 (by decide) 0 1 rfl rfl (by decide)
    have k2 := key 2 (by decide) 0 2 rfl rfl (by decide)
    have a1 := af_r (M := M) (b := b) (d := d) (x := 0) (y := 1) hb
    have a2 := af_r (M := M) (b := b) (d := d) (x := 0) (y := 2) hb
    have hr := mv_nz (M := M) (b := b) (m := 1) (d := d) (by decide)
    generalize mv_ M b 1 d = r at hr k1 k2 ⊢
    rw [X_X9_rudeness_53, XB_X9_rudeness_53_e, if_neg (by decide), XL_X9_rudeness_53_3, XB_X9_rudeness_53_3, if_pos (by decide), if_neg (by decide), if_neg (by decide), km_aft I hb hd (show (0 : Int) ≤ 0 ∧ (0 : Int) ≤ 3 by decide) (show (0 : Int) ≤ 1 ∧ (1 : Int) ≤ 3 by decide), ob, XL_X9_rudeness_53_3, XB_X9_rudeness_53_3, if_pos (show wI (1 + 1) < 3 by decide), if_neg (show ¬ wI 1 < 0 by decide), if_neg (show ¬ wI 1 < 0 by decide), show (1 : Int) + 1 = 2 from rfl, km_aft I hb hd (show (0 : Int) ≤ 0 ∧ (0 : Int) ≤ 3 by decide) (show (0 : Int) ≤ 2 ∧ (2 : Int) ≤ 3 by decide), ob, XL_X9_rudeness_53_3, XB_X9_rudeness_53_3, if_neg (show ¬ wI (2 + 1) < 3 by decide), XB_X9_rudeness_53_13]
    dsimp only
    generalize af_ M b d 0 1 = z1 at k1 a1 ⊢
    generalize af_ M b d 0 2 = z2 at k2 a2 ⊢
    rw [wI_of (x := z1) (by omega) (by omega), wI_of (x := z2) (by omega) (by omega), wI_of (x := b + 1) (by omega) (by omega)]
    exact mr_sel hr k1 k2
theorem km_can {M : am_M} (I : Ic M) {b m d : Int} (hb : 0 ≤ b ∧ b ≤ M 11 0) (hm : -1 ≤ m ∧ m ≤ 1) (hd : 0 ≤ d ∧ d < 1000) : X_X9_canBe_53 b d m M = some (b2 (mv_ M b m d ≠ -1), M) := by
  have hr := mv_r M b m d
  rw [X_X9_canBe_53, km_rud I hb hm hd, ob]
  dsimp only
  generalize mv_ M b m d = r at hr ⊢
  unfold mr_ b2
  by_cases c : r = -1
  · subst c; rfl
  · rw [if_neg c, wI_of (by omega) (by omega), if_neg (by omega), if_pos c]
theorem c_rud {M : am_M} (I : Ib M) {b m d : Int} (hb : 0 ≤ b ∧ b ≤ M 11 0) (hm : -1 ≤ m ∧ m ≤ 1) (hd : 0 ≤ d ∧ d < 1000) : X_X2_rudeness_11 b m d M = some (mv_ M b m d, M) := kc_rud I.c hb hm hd
theorem c_aft {M : am_M} (I : Ib M) {b d x y : Int} (hb : 0 ≤ b ∧ b ≤ M 11 0) (hd : 0 ≤ d ∧ d < 1000) (hx : 0 ≤ x ∧ x ≤ 3) (hy : 0 ≤ y ∧ y ≤ 3) : X_X2_borderAfter_11 b d x y M = some (af_ M b d x y, M) := kc_aft I.c hb hd hx hy
theorem m_aft {M : am_M} (I : Ib M) {b d x y : Int} (hb : 0 ≤ b ∧ b ≤ M 11 0) (hd : 0 ≤ d ∧ d < 1000) (hx : 0 ≤ x ∧ x ≤ 3) (hy : 0 ≤ y ∧ y ≤ 3) : X_X9_behind_53 b d x y M = some (af_ M b d x y, M) := km_aft I.c hb hd hx hy
theorem du_r {M : am_M} (I : Ib M) (c i b : Int) : 0 ≤ du_ M c i b ∧ du_ M c i b ≤ 162 := kdu_r I.c c i b
theorem c_due0 {M : am_M} (I : Ib M) {i b : Int} (hi : 0 ≤ i ∧ i < M 11 0) (hb : 0 ≤ b ∧ b ≤ 12) : X_X2_dueTo_11 0 i b (M 14 2) M = some (du_ M 0 i b, M) := kc_due0 I.c hi hb
theorem c_due1 {M : am_M} (I : Ib M) {i b : Int} (hi : 0 ≤ i ∧ i < M 11 0) (hb : 0 ≤ b ∧ b ≤ 12) : X_X2_dueTo_11 1 i b (M 14 3) M = some (du_ M 1 i b, M) := kc_due1 I.c hi hb
theorem m_due0 {M : am_M} (I : Ib M) {i b : Int} (hi : 0 ≤ i ∧ i < M 11 0) (hb : 0 ≤ b ∧ b ≤ 12) : X_X9_paysTo_53 i 0 b (M 54 2) M = some (du_ M 0 i b, M) := km_due0 I.c hi hb
theorem m_due1 {M : am_M} (I : Ib M) {i b : Int} (hi : 0 ≤ i ∧ i < M 11 0) (hb : 0 ≤ b ∧ b ≤ 12) : X_X9_paysTo_53 i 1 b (M 54 3) M = some (du_ M 1 i b, M) := km_due1 I.c hi hb
theorem c_both {M : am_M} (I : Ib M) {i b : Int} (hi : 0 ≤ i ∧ i < M 11 0) (hb : 0 ≤ b ∧ b ≤ 12) : X_X1_dueOfBoth_14_11 i b M = some (du_ M 0 i b + du_ M 1 i b, M) := kc_both I.c hi hb
theorem m_both {M : am_M} (I : Ib M) {i b : Int} (hi : 0 ≤ i ∧ i < M 11 0) (hb : 0 ≤ b ∧ b ≤ 12) : (X_X9_paysTo_53 i 0 b (M 54 2) M).bind (fun z1 => (X_X9_paysTo_53 i 1 b (z1.2 54 3) z1.2).bind fun z2 => some (z1.1 + z2.1, z2.2)) = some (du_ M 0 i b + du_ M 1 i b, M) := km_both I.c hi hb
theorem m_rud {M : am_M} (I : Ib M) {b m d : Int} (hb : 0 ≤ b ∧ b ≤ M 11 0) (hm : -1 ≤ m ∧ m ≤ 1) (hd : 0 ≤ d ∧ d < 1000) : X_X9_rudeness_53 b d m M = some (mr_ (mv_ M b m d), M) := km_rud I.c hb hm hd
theorem m_can {M : am_M} (I : Ib M) {b m d : Int} (hb : 0 ≤ b ∧ b ≤ M 11 0) (hm : -1 ≤ m ∧ m ≤ 1) (hd : 0 ≤ d ∧ d < 1000) : X_X9_canBe_53 b d m M = some (b2 (mv_ M b m d ≠ -1), M) := km_can I.c hb hm hd
end
section
/-! A day of the class. -/
theorem lp_collect (k : am_M → am_Rs) (N : am_M) (hs : 0 ≤ N 11 0 ∧ N 11 0 ≤ 12) (t : Nat) (ht : t < 4) (htd : Unit → (wI (N 14 0)).tdiv 10 = (t : Int)) (F0 F1 G : Nat → Int)
    (hP0 : ∀ (M : am_M) (i : Nat), M 11 = N 11 → M 12 = N 12 → M 13 = N 13 → (i : Int) < N 11 0 → X_X2_dueTo_11 0 i (N 14 1) (N 14 2) M = some (F0 i, M))
    (hP1 : ∀ (M : am_M) (i : Nat), M 11 = N 11 → M 12 = N 12 → M 13 = N 13 → (i : Int) < N 11 0 → X_X2_dueTo_11 1 i (N 14 1) (N 14 3) M = some (F1 i, M))
    (g0 : ∀ q : Nat, (q : Int) < N 11 0 → G ((t * 12 + q) * 2) = F0 q) (g1 : ∀ q : Nat, (q : Int) < N 11 0 → G ((t * 12 + q) * 2 + 1) = F1 q) :
    ∀ (e n : Nat) (M : am_M) (i : Nat), M 11 = N 11 → M 12 = N 12 → M 13 = N 13 → M 14 = N 14 → (i : Int) + e = N 11 0 → e < n →
      XL_X1_collect_14_11_1 k n i M = k (am_row M 18 fun j => if (t * 12 + i) * 2 ≤ j ∧ (j : Int) < (t * 12 + N 11 0) * 2 then G j else M 18 j) := by
  intro e
  induction e with
  | zero =>
    intro n M i m1 m2 m3 m4 hi hn
    obtain ⟨n, rfl⟩ : ∃ m, n = m + 1 := ⟨n - 1, by omega⟩
    rw [XL_X1_collect_14_11_1, XB_X1_collect_14_11_1, m1, wI_of (x := (i : Int)) (by omega) (by omega), wI_of (x := N 11 0) (by omega) (by omega), if_neg (by omega)]
    rw [show (fun j : Nat => if (t * 12 + i) * 2 ≤ j ∧ (j : Int) < (t * 12 + N 11 0) * 2 then G j else M 18 j) = M 18 from funext fun j => if_neg (by omega), row_self]
  | succ e ih =>
    intro n M i m1 m2 m3 m4 hi hn
    obtain ⟨n, rfl⟩ : ∃ m, n = m + 1 := ⟨n - 1, by omega⟩
    have x0 := hP0 M i m1 m2 m3 (by omega)
    obtain ⟨M1, hM1⟩ : ∃ M1, M1 = am_up M 18 ((t * 12 + i) * 2) (F0 i) := ⟨_, rfl⟩
    have k1 : M1 11 = N 11 := by rw [hM1, up_a (by decide), m1]
    have k2 : M1 12 = N 12 := by rw [hM1, up_a (by decide), m2]
    have k3 : M1 13 = N 13 := by rw [hM1, up_a (by decide), m3]
    have k4 : M1 14 = N 14 := by rw [hM1, up_a (by decide), m4]
    have x1 := hP1 M1 i k1 k2 k3 (by omega)
    obtain ⟨M2, hM2⟩ : ∃ M2, M2 = am_up M1 18 ((t * 12 + i) * 2 + 1) (F1 i) := ⟨_, rfl⟩
    have l1 : M2 11 = N 11 := by rw [hM2, up_a (by decide), k1]
    have l2 : M2 12 = N 12 := by rw [hM2, up_a (by decide), k2]
    have l3 : M2 13 = N 13 := by rw [hM2, up_a (by decide), k3]
    have l4 : M2 14 = N 14 := by rw [hM2, up_a (by decide), k4]
    have e0 : ∀ _ : Unit, wI (((t : Int) * 12 + i) * 2 + 0) = (((t * 12 + i) * 2 : Nat) : Int) := fun _ => by rw [wI_of (by omega) (by omega)]; push_cast; omega
    have e1 : ∀ _ : Unit, wI (((t : Int) * 12 + i) * 2 + (0 + 1)) = (((t * 12 + i) * 2 + 1 : Nat) : Int) := fun _ => by rw [wI_of (by omega) (by omega)]; push_cast; omega
    have hin : XL_X1_collect_14_11_3 (XB_X1_collect_14_11_8 (XL_X1_collect_14_11_1 k n)) 1000 i 0 M = XL_X1_collect_14_11_1 k n ((i + 1 : Nat) : Int) M2 := by
      rw [XL_X1_collect_14_11_3, XB_X1_collect_14_11_3, if_pos (show wI 0 < 2 by decide), m4, htd (), X_X1_slotOf, ob]
      dsimp only
      rw [e0 (), if_neg (by omega), if_pos (by omega), X_X1_rateOf_14, if_pos wI_0, ob]
      dsimp only
      rw [m4, x0, ob]
      dsimp only
      rw [if_pos (by omega), Int.toNat_natCast, ← hM1]
      rw [XL_X1_collect_14_11_3, XB_X1_collect_14_11_3, if_pos (show wI (0 + 1) < 2 by decide), k4, htd (), X_X1_slotOf, ob]
      dsimp only
      rw [e1 (), if_neg (by omega), if_pos (by omega), X_X1_rateOf_14, if_neg (show ¬ wI (0 + 1) = 0 by decide), ob]
      dsimp only
      rw [k4, show X_X2_dueTo_11 (0 + 1) (i : Int) (N 14 1) (N 14 3) M1 = some (F1 i, M1) from x1, ob]
      dsimp only
      rw [if_pos (by omega), Int.toNat_natCast, ← hM2]
      rw [XL_X1_collect_14_11_3, XB_X1_collect_14_11_3, if_neg (show ¬ wI (0 + 1 + 1) < 2 by decide), XB_X1_collect_14_11_8, Int.natCast_succ]
    rw [XL_X1_collect_14_11_1, XB_X1_collect_14_11_1, m1, wI_of (x := (i : Int)) (by omega) (by omega), wI_of (x := N 11 0) (by omega) (by omega), if_pos (by omega), hin, ih n M2 (i + 1) l1 l2 l3 l4 (by push_cast; omega) (by omega), hM2, hM1, up_row, up_row, row_row, row_row]
    refine congrArg k (congrArg (am_row M 18) (funext fun j => ?_))
    simp only [row_s]
    have q0 := g0 i (by omega)
    have q1 := g1 i (by omega)
    by_cases c0 : j = (t * 12 + i) * 2
    · subst c0
      rw [if_neg (by omega), if_neg (by omega), if_pos rfl, if_pos (by omega), q0]
    · by_cases c1 : j = (t * 12 + i) * 2 + 1
      · subst c1
        rw [if_neg (by omega), if_pos rfl, if_pos (by omega), q1]
      · rw [if_neg c1, if_neg c0]
        by_cases c2 : (t * 12 + (i + 1)) * 2 ≤ j ∧ (j : Int) < (t * 12 + N 11 0) * 2
        · rw [if_pos c2, if_pos (by omega)]
        · rw [if_neg c2, if_neg (by omega)]
theorem sp_isTaxDay (d : Nat) (hd : d < 1000) (M : am_M) : X_X1_isTaxDay d M = some (b2 (d < 40 ∧ d % 10 = 9), M) := by
  have ht : ∀ _ : Unit, wI ((d : Int).tmod 10) = ((d % 10 : Nat) : Int) := fun _ => by rw [Int.tmod_eq_emod_of_nonneg (by omega), wI_of (by omega) (by omega)]; omega
  simp only [X_X1_isTaxDay, wI_of (x := (d : Int)) (by omega) (by omega), ht ()]
  rw [if_neg (by omega)]
  by_cases c1 : d < 40
  · rw [if_pos (by omega)]
    by_cases c2 : d % 10 = 9
    · rw [if_pos (by omega), b2_t ⟨c1, c2⟩]
    · rw [if_neg (by omega), b2_f (by omega)]
  · rw [if_neg (by omega), b2_f (by omega)]
theorem sp_collect {M : am_M} (hG : Gd11 M) {d : Nat} (hd : M 14 0 = d) (hd4 : d < 40) (hb : 0 ≤ M 14 1 ∧ M 14 1 ≤ M 11 0) (h2 : 0 ≤ M 14 2 ∧ M 14 2 ≤ 9) (h3 : 0 ≤ M 14 3 ∧ M 14 3 ≤ 9) (G : Nat → Int)
    (g0 : ∀ q : Nat, (q : Int) < M 11 0 → G ((d / 10 * 12 + q) * 2) = due (M 12) (M 13) 0 q (M 14 1) (M 14 2)) (g1 : ∀ q : Nat, (q : Int) < M 11 0 → G ((d / 10 * 12 + q) * 2 + 1) = due (M 12) (M 13) 1 q (M 14 1) (M 14 3)) :
    X_X1_collect_14_11 M = some (0, am_row M 18 fun j => if d / 10 * 24 ≤ j ∧ (j : Int) < ((d / 10 * 24 : Nat) : Int) + M 11 0 * 2 then G j else M 18 j) := by
  have hs : 0 ≤ M 11 0 ∧ M 11 0 ≤ 12 := ⟨hG.1, hG.2.1⟩
  rw [X_X1_collect_14_11, XB_X1_collect_14_11_e]
  have := lp_collect XB_X1_collect_14_11_9 M hs (d / 10) (by omega) (fun _ => by rw [hd, wI_of (by omega) (by omega), Int.tdiv_eq_ediv_of_nonneg (by omega)]; omega) (fun q => due (M 12) (M 13) 0 q (M 14 1) (M 14 2)) (fun q => due (M 12) (M 13) 1 q (M 14 1) (M 14 3)) G
    (fun N i n1 n2 n3 hi => by
      have gN : Gd11 N := by unfold Gd11; rw [n1, n2, n3]; exact hG
      rw [sp_dueTo_11 gN (by decide) (by rw [n1]; omega) (by omega) h2, n2, n3])
    (fun N i n1 n2 n3 hi => by
      have gN : Gd11 N := by unfold Gd11; rw [n1, n2, n3]; exact hG
      rw [sp_dueTo_11 gN (by decide) (by rw [n1]; omega) (by omega) h3, n2, n3]) g0 g1 (M 11 0).toNat 1000 M 0 rfl rfl rfl rfl (by omega) (by omega)
  rw [show ((0 : Nat) : Int) = 0 from rfl] at this
  rw [this, XB_X1_collect_14_11_9]
  congr 3
  funext j
  clear this g0 g1
  by_cases c : d / 10 * 24 ≤ j ∧ (j : Int) < ((d / 10 * 24 : Nat) : Int) + M 11 0 * 2
  · rw [if_pos c, if_pos (by omega)]
  · rw [if_neg c, if_neg (by omega)]
theorem sp_pass {M : am_M} (hG : Gd11 M) {d : Nat} (hd : M 14 0 = d) (hd4 : d < 40) (hb : 0 ≤ M 14 1 ∧ M 14 1 ≤ M 11 0) (h2 : 0 ≤ M 14 2 ∧ M 14 2 ≤ 9) (h3 : 0 ≤ M 14 3 ∧ M 14 3 ≤ 9) {x y b' : Int} (hx : 0 ≤ x ∧ x ≤ 3) (hy : 0 ≤ y ∧ y ≤ 3) (hb' : aft (M 11 0) (M 12) (M 14 1) d x y = b') (G : Nat → Int)
    (g0 : ∀ q : Nat, (q : Int) < M 11 0 → G ((d / 10 * 12 + q) * 2) = due (M 12) (M 13) 0 q b' (M 14 2)) (g1 : ∀ q : Nat, (q : Int) < M 11 0 → G ((d / 10 * 12 + q) * 2 + 1) = due (M 12) (M 13) 1 q b' (M 14 3)) :
    ∃ M', X_X1_pass_14_11 x y M = some (0, M') ∧ (∀ c, c < 14 ∨ 18 < c → M' c = M c) ∧ (∀ j, M' 14 j = if j = 0 then (d : Int) + 1 else if j = 1 then b' else M 14 j) ∧ (∀ j, M' 15 j = if j = d then x else M 15 j) ∧ (∀ j, M' 16 j = if j = d then y else M 16 j) ∧ (∀ j, M' 17 j = if j = d + 1 then b' else M 17 j) ∧ (∀ j, M' 18 j = if d % 10 = 9 ∧ d / 10 * 24 ≤ j ∧ (j : Int) < ((d / 10 * 24 : Nat) : Int) + M 11 0 * 2 then G j else M 18 j) := by
  have hbr : 0 ≤ b' ∧ b' ≤ M 11 0 := by rw [← hb']; exact aft_r hb
  obtain ⟨M1, hM1⟩ : ∃ M1, M1 = am_up (am_up M 15 d x) 16 d y := ⟨_, rfl⟩
  have f1 : ∀ c, c ≠ 15 → c ≠ 16 → M1 c = M c := fun c q1 q2 => by rw [hM1, up_a q2, up_a q1]
  have gN : Gd11 M1 := by unfold Gd11; rw [f1 11 (by decide) (by decide), f1 12 (by decide) (by decide), f1 13 (by decide) (by decide)]; exact hG
  have s1 : X_X2_borderAfter_11 (M 14 1) d x y M1 = some (b', M1) := by
    rw [sp_borderAfter_11 gN (by rw [f1 11 (by decide) (by decide)]; exact hb) (by omega) hx hy, f1 11 (by decide) (by decide), f1 12 (by decide) (by decide), hb']
  obtain ⟨M2, hM2⟩ : ∃ M2, M2 = am_up M1 14 1 b' := ⟨_, rfl⟩
  have f2 : ∀ c, c ≠ 14 → M2 c = M1 c := fun c q => by rw [hM2, up_a q]
  have f2d : M2 14 0 = d := by rw [hM2, up_j (by decide), f1 14 (by decide) (by decide), hd]
  have f2b : M2 14 1 = b' := by rw [hM2, up_s]
  have f2j : ∀ j, j ≠ 1 → M2 14 j = M 14 j := fun j q => by rw [hM2, up_j q, f1 14 (by decide) (by decide)]
  -- behind the taxes
  obtain ⟨M3, h31, h32⟩ : ∃ M3, (X_X1_isTaxDay d M2).bind (fun z2 => if wI z2.1 = 0 then some z2.2 else (X_X1_collect_14_11 z2.2).bind fun z3 => some z3.2) = some M3 ∧ M3 = am_row M2 18 fun j => if d % 10 = 9 ∧ d / 10 * 24 ≤ j ∧ (j : Int) < ((d / 10 * 24 : Nat) : Int) + M 11 0 * 2 then G j else M 18 j := by
    refine ⟨_, ?_, rfl⟩
    rw [sp_isTaxDay d (by omega), ob]
    dsimp only
    by_cases c : d % 10 = 9
    · have gN2 : Gd11 M2 := by unfold Gd11; rw [f2 11 (by decide), f2 12 (by decide), f2 13 (by decide)]; exact gN
      rw [b2_t ⟨hd4, c⟩, if_neg (by decide), sp_collect gN2 f2d hd4 (by rw [f2b, f2 11 (by decide), f1 11 (by decide) (by decide)]; exact hbr) (by rw [f2j 2 (by decide)]; exact h2) (by rw [f2j 3 (by decide)]; exact h3) G
        (fun q hq => by rw [f2 11 (by decide), f1 11 (by decide) (by decide)] at hq; rw [g0 q hq, f2b, f2j 2 (by decide), f2 12 (by decide), f2 13 (by decide), f1 12 (by decide) (by decide), f1 13 (by decide) (by decide)])
        (fun q hq => by rw [f2 11 (by decide), f1 11 (by decide) (by decide)] at hq; rw [g1 q hq, f2b, f2j 3 (by decide), f2 12 (by decide), f2 13 (by decide), f1 12 (by decide) (by decide), f1 13 (by decide) (by decide)]), ob]
      dsimp only
      rw [f2 11 (by decide), f1 11 (by decide) (by decide), f2 18 (by decide), f1 18 (by decide) (by decide)]
      congr 2
      funext j
      clear g0 g1 hb'
      by_cases c2 : d / 10 * 24 ≤ j ∧ (j : Int) < ((d / 10 * 24 : Nat) : Int) + M 11 0 * 2
      · rw [if_pos c2, if_pos ⟨c, c2⟩]
      · rw [if_neg c2, if_neg (fun q => c2 q.2)]
    · rw [b2_f (fun q => c q.2), if_pos (by decide)]
      rw [show (fun j : Nat => if d % 10 = 9 ∧ d / 10 * 24 ≤ j ∧ (j : Int) < ((d / 10 * 24 : Nat) : Int) + M 11 0 * 2 then G j else M 18 j) = M2 18 from funext fun j => by rw [if_neg (fun q => c q.1), f2 18 (by decide), f1 18 (by decide) (by decide)], row_self]
  have f3 : ∀ c, c ≠ 18 → M3 c = M2 c := fun c q => by rw [h32, row_a q]
  have e1 : ∀ _ : Unit, wI ((d : Int) + 1) = ((d + 1 : Nat) : Int) := fun _ => by rw [wI_of (by omega) (by omega)]; rfl
  refine ⟨am_up (am_up M3 14 0 ((d : Int) + 1)) 17 (d + 1) b', ?_, fun c hc => ?_, fun j => ?_, fun j => ?_, fun j => ?_, fun j => ?_, fun j => ?_⟩
  · have u1 : (am_up M 15 d x) 14 0 = d := by rw [up_a (by decide), hd]
    have u3 : M1 14 1 = M 14 1 := by rw [f1 14 (by decide) (by decide)]
    have u4 : M1 14 0 = d := by rw [f1 14 (by decide) (by decide), hd]
    have u5 : M3 14 0 = d := by rw [f3 14 (by decide), f2d]
    have u6 : M3 14 1 = b' := by rw [f3 14 (by decide), f2b]
    have u7 : (am_up M3 14 0 ((d : Int) + 1)) 14 0 = (d : Int) + 1 := up_s
    have u8 : (am_up M3 14 0 ((d : Int) + 1)) 14 1 = b' := by rw [up_j (by decide), u6]
    rw [X_X1_pass_14_11]
    simp only [hd, wI_of (x := (d : Int)) (by omega) (by omega), Int.toNat_natCast, u1, ← hM1, u3, u4, s1, ob, ← hM2, f2d]
    rw [if_neg (by omega), if_pos (by omega), if_pos (by omega), if_pos (by omega)]
    revert h31
    rw [sp_isTaxDay d (by omega), ob, ob]
    dsimp only
    by_cases c : wI (b2 (d < 40 ∧ d % 10 = 9)) = 0
    · rw [if_pos c, if_pos c]
      intro h
      have h := Option.some.inj h
      simp only [h, u5, u7, u8, e1 (), Int.toNat_natCast]
      rw [if_pos (by omega)]
    · rw [if_neg c, if_neg c]
      cases hq : X_X1_collect_14_11 M2 with
      | none => intro h; cases h
      | some z =>
        rw [ob, ob]
        intro h
        have h := Option.some.inj h
        simp only [h, u5, u7, u8, e1 (), Int.toNat_natCast]
        rw [if_pos (by omega)]
  · rw [up_a (by omega), up_a (by omega), f3 c (by omega), f2 c (by omega), f1 c (by omega) (by omega)]
  · rw [up_a (by decide)]
    by_cases c0 : j = 0
    · subst c0; rw [up_s, if_pos rfl]
    · rw [up_j c0, if_neg c0, f3 14 (by decide)]
      by_cases c1 : j = 1
      · subst c1; rw [f2b, if_pos rfl]
      · rw [if_neg c1, f2j j c1]
  · rw [up_a (by decide), up_a (by decide), f3 15 (by decide), f2 15 (by decide), hM1, up_a (by decide)]
    by_cases c0 : j = d
    · subst c0; rw [up_s, if_pos rfl]
    · rw [up_j c0, if_neg c0]
  · rw [up_a (by decide), up_a (by decide), f3 16 (by decide), f2 16 (by decide), hM1]
    by_cases c0 : j = d
    · subst c0; rw [up_s, if_pos rfl]
    · rw [up_j c0, if_neg c0, up_a (by decide)]
  · by_cases c0 : j = d + 1
    · subst c0; rw [up_s, if_pos rfl]
    · rw [up_j c0, if_neg c0, up_a (by decide), f3 17 (by decide), f2 17 (by decide), f1 17 (by decide) (by decide)]
  · rw [up_a (by decide), up_a (by decide), h32, row_s]
end
section
/-! A day on both sides. -/
noncomputable def dayG (kd du o : Nat → Int) (bb : Int) (j : Nat) : Int := if j % 2 = 0 then due kd du 0 ((j / 2 % 12 : Nat) : Int) bb (o 2) else due kd du 1 ((j / 2 % 12 : Nat) : Int) bb (o 3)
noncomputable def dayB (x y : Int) (C : am_M) : Int := aft (C 11 0) (C 12) (C 14 1) (C 14 0) x y
/-- the class's memory behind a day -/
noncomputable def dayC (x y : Int) (C : am_M) : am_M := fun c j =>
  if c = 14 then (if j = 0 then C 14 0 + 1 else if j = 1 then dayB x y C else C 14 j)
  else if c = 15 then (if j = (C 14 0).toNat then x else C 15 j)
  else if c = 16 then (if j = (C 14 0).toNat then y else C 16 j)
  else if c = 17 then (if j = (C 14 0).toNat + 1 then dayB x y C else C 17 j)
  else if c = 18 then (if (C 14 0).toNat % 10 = 9 ∧ (C 14 0).toNat / 10 * 24 ≤ j ∧ (j : Int) < (((C 14 0).toNat / 10 * 24 : Nat) : Int) + C 11 0 * 2 then dayG (C 12) (C 13) (C 14) (dayB x y C) j else C 18 j)
  else C c j
theorem dayC_a {x y : Int} {C : am_M} {c : Nat} (h : c < 14 ∨ 18 < c) : dayC x y C c = C c := by
  funext j
  unfold dayC
  rw [if_neg (by omega), if_neg (by omega), if_neg (by omega), if_neg (by omega), if_neg (by omega)]
/-- what a day needs of the class -/
noncomputable def CB (C : am_M) : Prop := Gd11 C ∧ 0 ≤ C 14 0 ∧ (0 ≤ C 14 1 ∧ C 14 1 ≤ C 11 0) ∧ (0 ≤ C 14 2 ∧ C 14 2 ≤ 9) ∧ 0 ≤ C 14 3 ∧ C 14 3 ≤ 9
theorem CB.day {C : am_M} (h : CB C) (x y : Int) : CB (dayC x y C) := by
  obtain ⟨h1, h2, h3, h4, h5⟩ := h
  unfold CB Gd11
  rw [dayC_a (c := 11) (by decide), dayC_a (c := 12) (by decide), dayC_a (c := 13) (by decide)]
  refine ⟨h1, ?_, ?_, h4, h5⟩
  · show 0 ≤ C 14 0 + 1
    omega
  · exact aft_r h3
theorem dayG0 {kd du o : Nat → Int} {bb : Int} {t q : Nat} (h : q < 12) : dayG kd du o bb ((t * 12 + q) * 2) = due kd du 0 q bb (o 2) := by
  unfold dayG
  rw [if_pos (by omega), show (t * 12 + q) * 2 / 2 % 12 = q by omega]
theorem dayG1 {kd du o : Nat → Int} {bb : Int} {t q : Nat} (h : q < 12) : dayG kd du o bb ((t * 12 + q) * 2 + 1) = due kd du 1 q bb (o 3) := by
  unfold dayG
  rw [if_neg (by omega), show ((t * 12 + q) * 2 + 1) / 2 % 12 = q by omega]
theorem sp_day {C : am_M} (h : CB C) (hd : C 14 0 < 40) {x y : Int} (hx : 0 ≤ x ∧ x ≤ 3) (hy : 0 ≤ y ∧ y ≤ 3) : X_X1_pass_14_11 x y C = some (0, dayC x y C) := by
  obtain ⟨h1, h2, h3, h4, h5⟩ := h
  have hs := h1.2.1
  obtain ⟨d, hd0⟩ := Int.eq_ofNat_of_zero_le h2
  obtain ⟨M', e, q0, q14, q15, q16, q17, q18⟩ := sp_pass h1 hd0 (by omega) h3 h4 h5 hx hy (b' := dayB x y C) (by unfold dayB; rw [hd0]) (dayG (C 12) (C 13) (C 14) (dayB x y C)) (fun q hq => dayG0 (by omega)) (fun q hq => dayG1 (by omega))
  rw [e]
  congr 2
  funext c
  by_cases c0 : c < 14 ∨ 18 < c
  · rw [q0 c c0, dayC_a c0]
  · funext j
    unfold dayC
    rw [hd0, Int.toNat_natCast]
    rcases (show c = 14 ∨ c = 15 ∨ c = 16 ∨ c = 17 ∨ c = 18 by omega) with rfl | rfl | rfl | rfl | rfl
    · rw [q14 j, if_pos rfl]
    · rw [q15 j]; rfl
    · rw [q16 j]; rfl
    · rw [q17 j]; rfl
    · rw [q18 j]; rfl
/-- what the reference has noted of the strips behind d days -/
noncomputable def TT (s : Int) (kd du h R : Nat → Int) (d : Nat) (L : Nat → Int) (z : Nat) : Prop := ∀ i : Nat, (i : Int) < s → L (z + 4 + 3 * i) = tot kd du h R 0 i (d / 10) ∧ L (z + 4 + 3 * i + 1) = tot kd du h R 1 i (d / 10) ∧ L (z + 4 + 3 * i + 2) = chg h i d
theorem TT_c {s : Int} {kd du h h' R R' L : Nat → Int} {d z : Nat} (T : TT s kd du h R d L z) (hh : ∀ j, j ≤ d → h' j = h j) (hR : ∀ j, j < d → R' j = R j) : TT s kd du h' R' d L z := fun i hi => by
  have := T i hi
  rw [tot_c (d / 10) (fun j hj => hh j (by omega)) (fun j hj => hR j (by omega)), tot_c (d / 10) (fun j hj => hh j (by omega)) (fun j hj => hR j (by omega)), chg_c d (fun j hj => hh j hj)]
  exact this
theorem TT_s {s : Int} {kd du h R L L' : Nat → Int} {d z : Nat} (T : TT s kd du h R d L z) {r0 r1 : Int} (h0 : 0 ≤ r0 ∧ r0 ≤ 9) (h1 : 0 ≤ r1 ∧ r1 ≤ 9) (hR : R d = 10 * r0 + r1)
    (lq : ∀ q : Nat, (q : Int) < s → L' (z + 4 + 3 * q) = L (z + 4 + 3 * q) + (if d % 10 = 9 then due kd du 0 q (h (d + 1)) r0 else 0) ∧ L' (z + 4 + 3 * q + 1) = L (z + 4 + 3 * q + 1) + (if d % 10 = 9 then due kd du 1 q (h (d + 1)) r1 else 0) ∧ L' (z + 4 + 3 * q + 2) = L (z + 4 + 3 * q + 2) + (if crw q (h d) = crw q (h (d + 1)) then 0 else 1)) : TT s kd du h R (d + 1) L' z := fun i hi => by
  obtain ⟨a1, a2, a3⟩ := T i hi
  obtain ⟨b1, b2, b3⟩ := lq i hi
  rw [a1] at b1; rw [a2] at b2; rw [a3] at b3
  have e0 : (10 * r0 + r1) / 10 = r0 := by omega
  have e1 : (10 * r0 + r1) % 10 = r1 := by omega
  refine ⟨?_, ?_, b3⟩
  · rw [b1]
    by_cases c : d % 10 = 9
    · rw [if_pos c, show (d + 1) / 10 = d / 10 + 1 by omega]
      simp only [tot]
      rw [show 10 * (d / 10) + 10 = d + 1 by omega, show 10 * (d / 10) + 9 = d by omega, hR, e0]; rfl
    · rw [if_neg c, show (d + 1) / 10 = d / 10 by omega, Int.add_zero]
  · rw [b2]
    by_cases c : d % 10 = 9
    · rw [if_pos c, show (d + 1) / 10 = d / 10 + 1 by omega]
      simp only [tot]
      rw [show 10 * (d / 10) + 10 = d + 1 by omega, show 10 * (d / 10) + 9 = d by omega, hR, e1]; rfl
    · rw [if_neg c, show (d + 1) / 10 = d / 10 by omega, Int.add_zero]
theorem DI_TT {s : Int} {kd du h L : Nat → Int} {d : Nat} {z : Nat} : DyT s kd du (d : Int) h L z ↔ TT s kd du h (fun j => L (z + 80 + j)) d L z := by
  unfold DyT TT
  rw [show ((d : Int) / 10).toNat = d / 10 by omega, Int.toNat_natCast]
theorem aft_mv (s : Int) (kd : Nat → Int) (b d x y : Int) : aft s kd b d x y = b ∨ aft s kd b d x y = b - 1 ∨ aft s kd b d x y = b + 1 := by
  unfold aft
  split
  · exact Or.inl rfl
  · unfold cmp_
    split
    · exact Or.inr (Or.inl rfl)
    · split
      · exact Or.inl (Int.add_zero b)
      · exact Or.inr (Or.inr rfl)
/-- a day of the reference on the land that begins at z, told by what lies behind it -/
theorem sp_goOn (z : Nat) (hz : z = 0 ∨ z = 484) {N : am_M} (hG : GdM N) (hs : 0 < N 53 1) {x y : Int} (hx : 0 ≤ x ∧ x ≤ 3) (hy : 0 ≤ y ∧ y ≤ 3) {d : Nat} (hd : N 54 z = d) (hd4 : d < 40) (hb : 0 ≤ N 54 (z + 1) ∧ N 54 (z + 1) ≤ N 53 1) (h2 : 0 ≤ N 54 (z + 2) ∧ N 54 (z + 2) ≤ 9) (h3 : 0 ≤ N 54 (z + 3) ∧ N 54 (z + 3) ≤ 9) {bb : Int} (hbb : aft (N 53 1) (N 55) (N 54 (z + 1)) d x y = bb) :
    ∃ L', X_X9_goOn_53 z x y N = some (0, am_row N 54 L') ∧ L' z = d + 1 ∧ L' (z + 1) = bb ∧ L' (z + 2) = N 54 (z + 2) ∧ L' (z + 3) = N 54 (z + 3) ∧ L' (z + 40 + d) = 4 * x + y ∧ L' (z + 80 + d) = 10 * N 54 (z + 2) + N 54 (z + 3) ∧
      (∀ q : Nat, (q : Int) < N 53 1 → L' (z + 4 + 3 * q) = N 54 (z + 4 + 3 * q) + (if d % 10 = 9 then due (N 55) (N 56) 0 q bb (N 54 (z + 2)) else 0) ∧ L' (z + 4 + 3 * q + 1) = N 54 (z + 4 + 3 * q + 1) + (if d % 10 = 9 then due (N 55) (N 56) 1 q bb (N 54 (z + 3)) else 0) ∧ L' (z + 4 + 3 * q + 2) = N 54 (z + 4 + 3 * q + 2) + (if crw q (N 54 (z + 1)) = crw q bb then 0 else 1)) ∧
      ∀ j, (j < z ∨ z + 40 ≤ j) → j ≠ z + 40 + d → j ≠ z + 80 + d → L' j = N 54 j := by
  have hr : 0 ≤ bb ∧ bb ≤ N 53 1 := by rw [← hbb]; exact aft_r hb
  have hm := aft_mv (N 53 1) (N 55) (N 54 (z + 1)) d x y
  rw [hbb] at hm
  have g2 := hG.2.1
  refine lp_goOn z hz ⟨hG.1, hG.2.1⟩ hx hy hd hd4 hb h2 h3 hs ?_ hr hm (fun q => due (N 55) (N 56) 0 q bb (N 54 (z + 2))) (fun q => due (N 55) (N 56) 1 q bb (N 54 (z + 3))) ?_ ?_
  · rw [sp_behind hG hb (by omega) hx hy, hbb]
  · intro M' i n1 n2 n3 hi
    have gN : GdM M' := by unfold GdM; rw [n1, n2, n3]; exact hG
    rw [sp_paysTo gN (by decide) (by omega) (by omega) h2, n2, n3]
  · intro M' i n1 n2 n3 hi
    have gN : GdM M' := by unfold GdM; rw [n1, n2, n3]; exact hG
    rw [sp_paysTo gN (by decide) (by omega) (by omega) h3, n2, n3]
/-- the reference's day keeps step with the class's -/
theorem m_day {C N : am_M} (hC : CB C) (hG : GdM N) (es : N 53 1 = C 11 0) (hk : ∀ i : Nat, (i : Int) < C 11 0 → N 55 i = C 12 i ∧ N 56 i = C 13 i) (hs : C 11 0 ≠ 0) (D : DI (C 11 0) (C 12) (C 13) (C 14) (C 15) (C 16) (C 17) (C 18) (N 54) 0) (hd : C 14 0 < 40) {x y : Int} (hx : 0 ≤ x ∧ x ≤ 3) (hy : 0 ≤ y ∧ y ≤ 3) :
    ∃ L', X_X9_goOn_53 0 x y N = some (0, am_row N 54 L') ∧ DI (C 11 0) (C 12) (C 13) (dayC x y C 14) (dayC x y C 15) (dayC x y C 16) (dayC x y C 17) (dayC x y C 18) L' 0 ∧ ∀ j, 121 ≤ j → L' j = N 54 j := by
  obtain ⟨c1, c2, c3, c4, c5⟩ := hC
  have hs0 : 0 ≤ C 11 0 ∧ C 11 0 ≤ 12 := ⟨c1.1, c1.2.1⟩
  obtain ⟨d, hd0⟩ := Int.eq_ofNat_of_zero_le c2
  obtain ⟨⟨o1, o2, o3, o4, o5, o6, o7, o8, o9⟩, ⟨s1, s2⟩, ⟨y1, y2, y3, y4, y5⟩, ⟨p1, p2⟩, hT⟩ := D
  have hbb : aft (N 53 1) (N 55) (N 54 (0 + 1)) d x y = dayB x y C := by
    rw [es, aft_c (fun i h => (hk i h).1), o3]; unfold dayB; rw [hd0]
  obtain ⟨L', e, l0, l1, l2, l3, l4, l5, lq, lj⟩ := sp_goOn 0 (Or.inl rfl) hG (by rw [es]; omega) hx hy (d := d) (by rw [o1, hd0]) (by omega) (by rw [o3, es]; exact c3) (by rw [o5]; exact c4) (by rw [o6]; exact c5) hbb
  refine ⟨L', e, ?_, fun j hj => lj j (by omega) (by omega) (by omega)⟩
  have hbr : 0 ≤ dayB x y C ∧ dayB x y C ≤ C 11 0 := aft_r c3
  have k14 : ∀ j, dayC x y C 14 j = if j = 0 then C 14 0 + 1 else if j = 1 then dayB x y C else C 14 j := fun j => rfl
  have k15 : ∀ j, dayC x y C 15 j = if j = d then x else C 15 j := fun j => by unfold dayC; rw [hd0]; rfl
  have k16 : ∀ j, dayC x y C 16 j = if j = d then y else C 16 j := fun j => by unfold dayC; rw [hd0]; rfl
  have k17 : ∀ j, dayC x y C 17 j = if j = d + 1 then dayB x y C else C 17 j := fun j => by unfold dayC; rw [hd0]; rfl
  have k18 : ∀ j, dayC x y C 18 j = if d % 10 = 9 ∧ d / 10 * 24 ≤ j ∧ (j : Int) < ((d / 10 * 24 : Nat) : Int) + C 11 0 * 2 then dayG (C 12) (C 13) (C 14) (dayB x y C) j else C 18 j := fun j => by unfold dayC; rw [hd0]; rfl
  have z14 : dayC x y C 14 0 = ((d + 1 : Nat) : Int) := by rw [k14, if_pos rfl, hd0]; rfl
  have z14b : dayC x y C 14 1 = dayB x y C := rfl
  have hy2 : C 17 d = C 14 1 := by rw [← y2, hd0, Int.toNat_natCast]
  have hR : ∀ j, j < d → L' (0 + 80 + j) = N 54 (0 + 80 + j) := fun j hj => lj _ (by omega) (by omega) (by omega)
  refine ⟨⟨?_, ?_, ?_, ?_, ?_, ?_, ?_, ?_, ?_⟩, ⟨?_, ?_⟩, ⟨?_, ?_, ?_, ?_, ?_⟩, ⟨?_, ?_⟩, ?_⟩
  · rw [z14, l0]; rfl
  · rw [z14]; omega
  · rw [z14b]; exact l1
  · rw [z14b]; exact hbr
  · exact l2.trans o5
  · exact l3.trans o6
  · exact o7
  · exact o8
  · exact fun q => absurd q hs
  · intro j
    rw [k15, k16]
    have := s1 j
    constructor
    · split
      · exact hx
      · exact this.1
    · split
      · exact hy
      · exact this.2
  · intro j hj
    rw [z14] at hj
    rw [k15, k16]
    by_cases c : j = d
    · subst c
      rw [if_pos rfl, if_pos rfl]
      refine ⟨l4, ?_⟩
      rw [l5, o5, o6]; omega
    · rw [if_neg c, if_neg c, lj (0 + 40 + j) (by omega) (by omega) (by omega), lj (0 + 80 + j) (by omega) (by omega) (by omega)]
      exact s2 j (by omega)
  · rw [k17, if_neg (by omega), lj (0 + 120) (by omega) (by omega) (by omega)]; exact y1
  · rw [z14, Int.toNat_natCast, k17, if_pos rfl, z14b]
  · intro j
    rw [k17]
    split
    · omega
    · exact y3 j
  · intro j hj
    rw [z14] at hj
    rw [k17]
    split
    · exact hbr.2
    · exact y4 j (by omega)
  · intro j hj
    rw [z14] at hj
    rw [k17, k17, k15, k16, if_neg (show ¬ j = d + 1 by omega)]
    by_cases c : j = d
    · subst c
      rw [if_pos rfl, if_pos rfl, if_pos rfl, hy2]; unfold dayB; rw [hd0]
    · rw [if_neg (by omega), if_neg c, if_neg c]
      exact y5 j (by omega)
  · intro j
    rw [k18]
    split
    · unfold dayG
      split
      · exact due_r c1.2.2.2 c4
      · exact due_r c1.2.2.2 c5
    · exact p1 j
  · intro t i ht hi
    rw [z14] at ht
    dsimp only
    rw [k17, k18, k18]
    by_cases c : 10 * t + 9 = d
    · have e1 : d % 10 = 9 := by omega
      have e2 : d / 10 = t := by omega
      rw [if_pos (show 10 * t + 10 = d + 1 by omega), c, l5, o5, o6, e2, if_pos (by refine ⟨e1, ?_, ?_⟩ <;> omega), if_pos (by refine ⟨e1, ?_, ?_⟩ <;> omega), dayG0 (by omega), dayG1 (by omega), show (10 * C 14 2 + C 14 3) / 10 = C 14 2 by omega, show (10 * C 14 2 + C 14 3) % 10 = C 14 3 by omega]
      exact ⟨rfl, rfl⟩
    · rw [if_neg (show ¬ 10 * t + 10 = d + 1 by omega), hR (10 * t + 9) (by omega), if_neg (by omega), if_neg (by omega)]
      exact p2 t i (by omega) hi
  · rw [z14, DI_TT]
    rw [hd0, DI_TT] at hT
    have hT2 := TT_c (h' := dayC x y C 17) (R' := fun j => L' (0 + 80 + j)) hT (fun j hj => by rw [k17, if_neg (by omega)]) (fun j hj => hR j hj)
    refine TT_s hT2 c4 c5 ?_ (fun q hq => ?_)
    · show L' (0 + 80 + d) = _
      rw [l5, o5, o6]
    · have := lq q (by rw [es]; exact hq)
      rw [o5, o6, o3, due_c (i := (q : Int)) (hk q hq).1 (hk q hq).2, due_c (i := (q : Int)) (hk q hq).1 (hk q hq).2] at this
      rw [k17, if_pos rfl, k17, if_neg (show ¬ d = d + 1 by omega), hy2]
      exact this
theorem Inv.cb {M : am_M} (I : Inv M) : CB M := ⟨I.g11, I.r0.1, I.r1, I.r2, I.r3⟩
theorem Inv.kk {M : am_M} (I : Inv M) : ∀ i : Nat, (i : Int) < M 11 0 → M 55 i = M 12 i ∧ M 56 i = M 13 i := I.2.2.2.1.2.2.2.2.2.2.2.1
theorem eq_day {M : am_M} (I : Inv M) {x y : Int} (hx : iR x) (hy : iR y) : Step (X_X8_day_0 x y) (X_X9_day_53 x y) M := gd_day I hx hy fun h1 h2 h3 => by
  have hG := I.g11
  have es := I.es
  have r0 := I.r0
  have hs := I.rs
  by_cases c : M 14 0 < 40
  · have hc : X_X8_day_0 x y M = some (dayC x y M 14 1, dayC x y M) := by
      simp (disch := omega) only [X_X8_day_0, wI_R hx, wI_R hy, sp_hasNoLand hG, b2_f h3, ob, wI_0, if_true, wI_of (x := M 14 0), if_neg, if_pos, sp_day I.cb c h1 h2]
    have hG' : GdM (dayC x y M) := by unfold GdM; rw [dayC_a (c := 53) (by decide), dayC_a (c := 55) (by decide), dayC_a (c := 56) (by decide)]; exact I.gM
    obtain ⟨L', e1, e2, e3⟩ := m_day (N := dayC x y M) I.cb hG' (by rw [dayC_a (c := 53) (by decide)]; exact es) (fun i hi => by rw [dayC_a (c := 55) (by decide), dayC_a (c := 56) (by decide)]; exact I.kk i hi) h3 (by rw [dayC_a (c := 54) (by decide)]; exact I.2.2.2.2.1) c h1 h2
    have hm : X_X9_day_53 x y (dayC x y M) = some (L' 1, am_row (dayC x y M) 54 L') := by
      have u1 : dayC x y M 53 1 = M 11 0 := by rw [dayC_a (c := 53) (by decide)]; exact es
      have u2 : dayC x y M 54 0 = M 14 0 := by rw [dayC_a (c := 54) (by decide)]; exact I.d0
      simp (disch := omega) only [X_X9_day_53, sp_isSaid _ hx, b2_t h1, sp_isSaid _ hy, b2_t h2, ob, w1, n10, if_false, u1, u2, wI_of (x := M 11 0), wI_of (x := M 14 0), if_neg, e1, row_s]
    refine ⟨_, _, _, _, hc, hm, ?_, ?_⟩
    · rw [show dayC x y M 14 1 = L' 1 from e2.1.2.2.1.symm]
    · refine inv_days I (fun a q1 q2 q3 q4 q5 q6 => by rw [row_a q6, dayC_a (by omega)]) (fun j q1 q2 => by rw [row_s, e3 j q1, dayC_a (c := 54) (by decide)]) ?_
      rw [row_a (by decide), row_a (by decide), row_a (by decide), row_a (by decide), row_a (by decide), row_s]
      exact e2
  · refine st_same I (v := -2) (w := -2) ?_ ?_ rfl
    · simp (disch := omega) only [X_X8_day_0, wI_R hx, wI_R hy, sp_hasNoLand hG, b2_f h3, ob, wI_0, if_true, wI_of (x := M 14 0), if_neg]
    · simp (disch := omega) only [X_X9_day_53, sp_isSaid _ hx, b2_t h1, sp_isSaid _ hy, b2_t h2, ob, w1, n10, if_false, es, I.d0, wI_of (x := M 11 0), wI_of (x := M 14 0), if_neg, if_pos]
end
section
/-! Days by lots; lands kept, gone on from; days undone, where the border had lain. -/
noncomputable def lt_ (l : Int) : Int := (48271 * l) % 2147483647
theorem lt_r (l : Int) : 0 ≤ lt_ l ∧ lt_ l < 2147483647 := by unfold lt_; omega
theorem lt_c {l : Int} (h : 0 ≤ l ∧ l < 2147483647) : (wL (48271 * l)).tmod 2147483647 = lt_ l := by
  rw [wL_of (by omega) (by omega), Int.tmod_eq_emod_of_nonneg (by omega)]; rfl
theorem lt_m {l : Int} (h : 0 ≤ l ∧ l < 2147483647) : (wL (l * 48271)).tmod 2147483647 = lt_ l := by
  rw [Int.mul_comm, lt_c h]
theorem lt_x {l : Int} (h : 0 ≤ l ∧ l < 2147483647) : (wL l).tmod 4 = l % 4 := by
  rw [wL_of (by omega) (by omega), Int.tmod_eq_emod_of_nonneg (by omega)]
theorem lt_y {l : Int} (h : 0 ≤ l ∧ l < 2147483647) : (wL ((wL l).tdiv 16)).tmod 4 = l / 16 % 4 := by
  rw [wL_of (x := l) (by omega) (by omega), Int.tdiv_eq_ediv_of_nonneg (by omega), wL_of (by omega) (by omega), Int.tmod_eq_emod_of_nonneg (by omega)]
noncomputable def lotsC : Nat → Int → am_M → am_M
  | 0, _, C => C
  | e + 1, l, C => lotsC e (lt_ l) (dayC (lt_ l % 4) (lt_ l / 16 % 4) C)
theorem lotsC_a {c : Nat} (h : c < 14 ∨ 18 < c) : ∀ (e : Nat) (l : Int) (C : am_M), lotsC e l C c = C c
  | 0, _, _ => rfl
  | e + 1, l, C => by rw [lotsC, lotsC_a h e, dayC_a h]
theorem lp_lotsC (k : am_M → am_Rs) : ∀ (e n i : Nat) (v l : Int) (C : am_M), CB C → (0 ≤ l ∧ l < 2147483647) → C 14 0 + e ≤ 40 → v = (i : Int) + e → i + e ≤ 100 → e < n → XL_X8_lots_0_10 k n v l i C = k (lotsC e l C) := by
  intro e
  induction e with
  | zero =>
    intro n i v l C hC hl hd hv hi hn
    obtain ⟨n, rfl⟩ : ∃ m, n = m + 1 := ⟨n - 1, by omega⟩
    rw [XL_X8_lots_0_10, XB_X8_lots_0_10, wI_of (x := (i : Int)) (by omega) (by omega), wI_of (x := v) (by omega) (by omega), if_neg (by omega)]; rfl
  | succ e ih =>
    intro n i v l C hC hl hd hv hi hn
    obtain ⟨n, rfl⟩ : ∃ m, n = m + 1 := ⟨n - 1, by omega⟩
    have h1 := lt_r l
    have h2 := hC.2.1
    have hx : 0 ≤ lt_ l % 4 ∧ lt_ l % 4 ≤ 3 := by omega
    have hy : 0 ≤ lt_ l / 16 % 4 ∧ lt_ l / 16 % 4 ≤ 3 := by omega
    have ih := ih n (i + 1) v (lt_ l) (dayC (lt_ l % 4) (lt_ l / 16 % 4) C) (hC.day _ _) h1 (by show C 14 0 + 1 + e ≤ 40; omega) (by omega) (by omega) (by omega)
    rw [XL_X8_lots_0_10, XB_X8_lots_0_10, wI_of (x := (i : Int)) (by omega) (by omega), wI_of (x := v) (by omega) (by omega), if_pos (by omega), lt_c hl, lt_x h1, lt_y h1, sp_day hC (by omega) hx hy, ob]
    exact ih
theorem lp_lotsM (k : am_M → am_Rs) : ∀ (e n i : Nat) (v l : Int) (C N : am_M), CB C → GdM N → N 53 1 = C 11 0 → (∀ i : Nat, (i : Int) < C 11 0 → N 55 i = C 12 i ∧ N 56 i = C 13 i) → C 11 0 ≠ 0 → DI (C 11 0) (C 12) (C 13) (C 14) (C 15) (C 16) (C 17) (C 18) (N 54) 0 → (0 ≤ l ∧ l < 2147483647) → C 14 0 + e ≤ 40 → v = (i : Int) + e → i + e ≤ 100 → e < n →
    ∃ L', XL_X9_lots_53_8 k n v l i N = k (am_row N 54 L') ∧ DI (C 11 0) (C 12) (C 13) (lotsC e l C 14) (lotsC e l C 15) (lotsC e l C 16) (lotsC e l C 17) (lotsC e l C 18) L' 0 ∧ ∀ j, 121 ≤ j → L' j = N 54 j := by
  intro e
  induction e with
  | zero =>
    intro n i v l C N hC hG es hk hs D hl hd hv hi hn
    obtain ⟨n, rfl⟩ : ∃ m, n = m + 1 := ⟨n - 1, by omega⟩
    refine ⟨N 54, ?_, D, fun _ _ => rfl⟩
    rw [XL_X9_lots_53_8, XB_X9_lots_53_8, wI_of (x := (i : Int)) (by omega) (by omega), wI_of (x := v) (by omega) (by omega), if_neg (by omega), row_self]
  | succ e ih =>
    intro n i v l C N hC hG es hk hs D hl hd hv hi hn
    obtain ⟨n, rfl⟩ : ∃ m, n = m + 1 := ⟨n - 1, by omega⟩
    have h1 := lt_r l
    have h2 := hC.2.1
    have hx : 0 ≤ lt_ l % 4 ∧ lt_ l % 4 ≤ 3 := by omega
    have hy : 0 ≤ lt_ l / 16 % 4 ∧ lt_ l / 16 % 4 ≤ 3 := by omega
    obtain ⟨L1, a1, a2, a3⟩ := m_day hC hG es hk hs D (by omega) hx hy
    have c11 : dayC (lt_ l % 4) (lt_ l / 16 % 4) C 11 = C 11 := dayC_a (by decide)
    have c12 : dayC (lt_ l % 4) (lt_ l / 16 % 4) C 12 = C 12 := dayC_a (by decide)
    have c13 : dayC (lt_ l % 4) (lt_ l / 16 % 4) C 13 = C 13 := dayC_a (by decide)
    have ih := ih n (i + 1) v (lt_ l) (dayC (lt_ l % 4) (lt_ l / 16 % 4) C) (am_row N 54 L1) (hC.day _ _) (by unfold GdM; rw [row_a (by decide), row_a (by decide), row_a (by decide)]; exact hG) (by rw [row_a (by decide), c11]; exact es) (by rw [row_a (by decide), row_a (by decide), c11, c12, c13]; exact hk) (by rw [c11]; exact hs) (by rw [c11, c12, c13, row_s]; exact a2) h1 (by show C 14 0 + 1 + e ≤ 40; omega) (by omega) (by omega) (by omega)
    rw [c11, c12, c13] at ih
    obtain ⟨L', b1, b2, b3⟩ := ih
    refine ⟨L', ?_, b2, fun j hj => by rw [b3 j hj, row_s, a3 j hj]⟩
    rw [XL_X9_lots_53_8, XB_X9_lots_53_8, wI_of (x := (i : Int)) (by omega) (by omega), wI_of (x := v) (by omega) (by omega), if_pos (by omega), lt_m hl, lt_x h1, lt_y h1, a1, ob]
    rw [row_row] at b1
    exact b1
theorem eq_lots {M : am_M} (I : Inv M) {n s : Int} (hn : iR n) (hs : iR s) : Step (X_X8_lots_0 n s) (X_X9_lots_53 n s) M := gd_lots I hn hs fun h1 h2 h3 => by
  have hG := I.g11
  have es := I.es
  have r0 := I.r0
  have rs := I.rs
  by_cases c : 40 < M 14 0 + n
  · refine st_same I (v := -2) (w := -2) ?_ ?_ rfl
    · simp (disch := omega) only [X_X8_lots_0, XB_X8_lots_0_e, wI_R hn, wI_R hs, lc_seed hs, sp_hasNoLand hG, b2_f h3, ob, wI_0, if_true, wI_of (x := M 14 0 + n), if_neg, if_pos]
    · simp (disch := omega) only [X_X9_lots_53, XB_X9_lots_53_e, wI_R hn, wI_R hs, sp_in _ hn i1 i20, sp_in _ hs i1 iS, b2_t h1, b2_t h2, ob, w1, n10, if_false, es, I.d0, wI_of (x := M 11 0), wI_of (x := M 14 0 + n), if_neg, if_pos]
  · have q := lp_lotsC XB_X8_lots_0_12 n.toNat 1000 0 n s M I.cb (by omega) (by omega) (by omega) (by omega) (by omega)
    rw [show ((0 : Nat) : Int) = 0 from rfl] at q
    have hc : X_X8_lots_0 n s M = some (lotsC n.toNat s M 14 1, lotsC n.toNat s M) := by
      simp (disch := omega) only [X_X8_lots_0, XB_X8_lots_0_e, wI_R hn, wI_R hs, lc_seed hs, sp_hasNoLand hG, b2_f h3, ob, wI_0, if_true, wI_of (x := M 14 0 + n), if_neg, if_pos, q]
      rfl
    obtain ⟨N, hN⟩ : ∃ N, N = lotsC n.toNat s M := ⟨_, rfl⟩
    have f : ∀ c, c < 14 ∨ 18 < c → N c = M c := fun c h => by rw [hN, lotsC_a h]
    obtain ⟨L', e1, e2, e3⟩ := lp_lotsM XB_X9_lots_53_10 n.toNat 1000 0 n s M N I.cb (by unfold GdM; rw [f 53 (by decide), f 55 (by decide), f 56 (by decide)]; exact I.gM) (by rw [f 53 (by decide)]; exact es) (by rw [f 55 (by decide), f 56 (by decide)]; exact I.kk) h3 (by rw [f 54 (by decide)]; exact I.2.2.2.2.1) (by omega) (by omega) (by omega) (by omega) (by omega)
    rw [show ((0 : Nat) : Int) = 0 from rfl] at e1
    rw [← hN] at hc e2
    have u1 : N 53 1 = M 11 0 := by rw [f 53 (by decide)]; exact es
    have u2 : N 54 0 = M 14 0 := by rw [f 54 (by decide)]; exact I.d0
    have hm : X_X9_lots_53 n s N = some (L' 1, am_row N 54 L') := by
      simp (disch := omega) only [X_X9_lots_53, XB_X9_lots_53_e, wI_R hn, wI_R hs, sp_in _ hn i1 i20, sp_in _ hs i1 iS, b2_t h1, b2_t h2, ob, w1, n10, if_false, u1, u2, wI_of (x := M 11 0), wI_of (x := M 14 0 + n), if_neg, e1]
      rw [XB_X9_lots_53_10, row_s]
    refine ⟨_, _, _, _, hc, hm, ?_, ?_⟩
    · rw [show N 14 1 = L' 1 from e2.1.2.2.1.symm]
    · refine inv_days I (fun a q1 q2 q3 q4 q5 q6 => by rw [row_a q6, f a (by omega)]) (fun j q1 q2 => by rw [row_s, e3 j q1, f 54 (by decide)]) ?_
      rw [row_a (by decide), row_a (by decide), row_a (by decide), row_a (by decide), row_a (by decide), row_s]
      exact e2
/-! days undone -/
noncomputable def LA (M : am_M) (n : Nat) (L : Nat → Int) : Prop := (∀ j, j < 484 → L j = M 54 j) ∧ L 484 = n ∧ L 485 = M 17 n ∧ (∀ j, 40 ≤ j → j < 121 → L (484 + j) = M 54 j) ∧ TT (M 11 0) (M 12) (M 13) (M 17) (fun j => M 54 (0 + 80 + j)) n L 484
theorem lp_lay4 (k : am_M → am_Rs) {M N : am_M} (I : Inv M) (hN : ∀ c, 53 ≤ c → N c = M c) (hs : M 11 0 ≠ 0) (v : Nat) (hv : (v : Int) ≤ M 14 0) : ∀ (e n i : Nat) (L : Nat → Int), LA M i L → i + e = v → e < n → ∃ L', XL_X9_layAhead_53_4 k n v i (am_row N 54 L) = k (am_row N 54 L') ∧ LA M v L'
  | 0, n + 1, i, L, hL, hi, hn => by
    have r0 := I.r0
    refine ⟨L, ?_, by rw [← hi, Nat.add_zero]; exact hL⟩
    rw [XL_X9_layAhead_53_4, XB_X9_layAhead_53_4, wI_of (x := (i : Int)) (by omega) (by omega), wI_of (x := (v : Int)) (by omega) (by omega), if_neg (by omega)]
  | e + 1, n + 1, i, L, hL, hi, hn => by
    have r0 := I.r0
    have rs := I.rs
    obtain ⟨q1, q2, q3, q4, q5⟩ := hL
    obtain ⟨⟨o1, o2, o3, o4, o5, o6, o7, o8, o9⟩, ⟨s1, s2⟩, ⟨y1, y2, y3, y4, y5⟩, ⟨p1, p2⟩, hT⟩ := I.2.2.2.2.1
    have a1 := (s1 i).1
    have a2 := (s1 i).2
    obtain ⟨w1', w2, w3⟩ := s2 i (by omega)
    have l80 : L (80 + i) = M 54 (0 + 80 + i) := by rw [q1 _ (by omega), Nat.zero_add]
    have l40 : L (40 + i) = 4 * M 15 i + M 16 i := by rw [q1 _ (by omega), ← w1', Nat.zero_add]
    obtain ⟨R, hR⟩ : ∃ R, M 54 (0 + 80 + i) = R := ⟨_, rfl⟩
    rw [hR] at w2 w3 l80
    have hh := y4 i (by omega)
    have hh0 := (y3 i).1
    obtain ⟨N1, hN1⟩ : ∃ N1, N1 = am_up (am_up (am_row N 54 L) 54 486 (R / 10)) 54 487 (R % 10) := ⟨_, rfl⟩
    have f : ∀ c, 53 ≤ c → c ≠ 54 → N1 c = M c := fun c h0 h => by rw [hN1, up_a h, up_a h, row_a h, hN c h0]
    have g : ∀ j, j ≠ 486 → j ≠ 487 → N1 54 j = L j := fun j h1 h2 => by rw [hN1, up_j h2, up_j h1, row_s]
    have g6 : N1 54 (484 + 2) = R / 10 := by rw [hN1, up_j (by decide), up_s]
    have g7 : N1 54 (484 + 3) = R % 10 := by rw [hN1, up_s]
    have hrow : ∀ F : Nat → Int, am_row N1 54 F = am_row N 54 F := fun F => by rw [hN1, up_row, up_row, row_row, row_row, row_row]
    have hbb : aft (N1 53 1) (N1 55) (N1 54 (484 + 1)) i (M 15 i) (M 16 i) = M 17 (i + 1) := by
      rw [f 53 (by decide) (by decide), f 55 (by decide) (by decide), I.es, aft_c (fun j h => I.kd h), g _ (by decide) (by decide), q3, y5 i (by omega)]
    obtain ⟨L1, e1, l0, l1, l2, l3, l4, l5, lq, lj⟩ := sp_goOn 484 (Or.inr rfl) (N := N1) (by unfold GdM; rw [f 53 (by decide) (by decide), f 55 (by decide) (by decide), f 56 (by decide) (by decide)]; exact I.gM) (by rw [f 53 (by decide) (by decide), I.es]; omega) a1 a2 (d := i) (by rw [g _ (by decide) (by decide), q2]) (by omega) (by rw [g _ (by decide) (by decide), f 53 (by decide) (by decide), I.es, q3]; exact ⟨hh0, hh⟩) (by rw [g6]; omega) (by rw [g7]; omega) hbb
    have hLA : LA M (i + 1) L1 := by
      refine ⟨fun j hj => ?_, l0, l1, fun j h1 h2 => ?_, ?_⟩
      · rw [lj j (by omega) (by omega) (by omega), g j (by omega) (by omega), q1 j hj]
      · by_cases c1 : j = 40 + i
        · subst c1
          rw [show 484 + (40 + i) = 484 + 40 + i by omega, l4, ← w1', Nat.zero_add]
        · by_cases c2 : j = 80 + i
          · subst c2
            rw [show 484 + (80 + i) = 484 + 80 + i by omega, l5, g6, g7, show M 54 (80 + i) = R from hR]; omega
          · rw [lj (484 + j) (by omega) (by omega) (by omega), g _ (by omega) (by omega), q4 j h1 h2]
      · refine TT_s q5 (r0 := R / 10) (r1 := R % 10) (by omega) (by omega) (by show M 54 (0 + 80 + i) = _; rw [hR]; omega) (fun q hq => ?_)
        have := lq q (by rw [f 53 (by decide) (by decide), I.es]; exact hq)
        rw [g6, g7, f 55 (by decide) (by decide), f 56 (by decide) (by decide), due_c (i := (q : Int)) (I.kd hq) (I.du hq), due_c (i := (q : Int)) (I.kd hq) (I.du hq), g _ (by omega) (by omega), g _ (by omega) (by omega), g _ (by omega) (by omega), g _ (by omega) (by omega), q3] at this
        exact this
    obtain ⟨L', b1, b2⟩ := lp_lay4 k I hN hs v hv e n (i + 1) L1 hLA (by omega) (by omega)
    refine ⟨L', ?_, b2⟩
    have u1 : ∀ _ : Unit, wI (80 + (i : Int)) = ((80 + i : Nat) : Int) := fun _ => by rw [wI_of (by omega) (by omega)]; push_cast; omega
    have u2 : ∀ _ : Unit, wI (40 + (i : Int)) = ((40 + i : Nat) : Int) := fun _ => by rw [wI_of (by omega) (by omega)]; push_cast; omega
    have u3 : ∀ X : Int, (am_up (am_row N 54 L) 54 486 X) 54 (80 + i) = R := fun X => by rw [up_j (by omega), row_s, l80]
    have u4 : (am_row N 54 L) 54 (80 + i) = R := by rw [row_s, l80]
    have u5 : N1 54 (40 + i) = 4 * M 15 i + M 16 i := by rw [g _ (by omega) (by omega), l40]
    have u6 : ∀ _ : Unit, (wI R).tdiv 10 = R / 10 := fun _ => by rw [wI_of (by omega) (by omega), Int.tdiv_eq_ediv_of_nonneg w2]
    have u7 : ∀ _ : Unit, (wI R).tmod 10 = R % 10 := fun _ => by rw [wI_of (by omega) (by omega), Int.tmod_eq_emod_of_nonneg w2]
    have u8 : ∀ _ : Unit, (wI (4 * M 15 i + M 16 i)).tdiv 4 = M 15 i := fun _ => by rw [wI_of (by omega) (by omega), Int.tdiv_eq_ediv_of_nonneg (by omega)]; omega
    have u9 : ∀ _ : Unit, (wI (4 * M 15 i + M 16 i)).tmod 4 = M 16 i := fun _ => by rw [wI_of (by omega) (by omega), Int.tmod_eq_emod_of_nonneg (by omega)]; omega
    rw [XL_X9_layAhead_53_4, XB_X9_layAhead_53_4, wI_of (x := (i : Int)) (by omega) (by omega), wI_of (x := (v : Int)) (by omega) (by omega), if_pos (by omega)]
    simp only [u1 (), u2 (), Int.toNat_natCast, u3, u4, u6 (), u7 (), ← hN1, u5, u8 (), u9 ()]
    rw [if_pos (by omega), if_pos (by omega), if_pos (by omega), if_pos (by omega)]
    rw [show ((484 : Nat) : Int) = 484 from rfl] at e1
    rw [e1, ob, hrow]
    exact b1
theorem sp_layAhead {M N : am_M} (I : Inv M) (hN : ∀ c, 53 ≤ c → N c = M c) (n : Nat) (hn : (n : Int) ≤ M 14 0) : ∃ L', X_X9_layAhead_53 n N = some (0, am_row N 54 L') ∧ LA M n L' ∧ L' 486 = M 54 2 ∧ L' 487 = M 54 3 := by
  have r0 := I.r0
  have c := sp_copyLand (M := N) (a := 0) (b := 484) (by omega) (by omega) (by omega)
  rw [show ((0 : Nat) : Int) = 0 from rfl, show ((484 : Nat) : Int) = 484 from rfl] at c
  obtain ⟨L0, hL0⟩ : ∃ L0 : Nat → Int, L0 = fun j => if j = 485 then M 54 120 else if 484 ≤ j ∧ j < 524 then 0 else if 484 ≤ j ∧ j < 605 then M 54 (j - 484) else M 54 j := ⟨_, rfl⟩
  have hLA : LA M 0 L0 := by
    refine ⟨fun j hj => ?_, ?_, ?_, fun j h1 h2 => ?_, fun i hi => ?_⟩
    · rw [hL0]; dsimp only; rw [if_neg (by omega), if_neg (by omega), if_neg (by omega)]
    · rw [hL0]; rfl
    · rw [hL0]; exact I.2.2.2.2.1.2.2.1.1.symm
    · rw [hL0]; dsimp only; rw [if_neg (by omega), if_neg (by omega), if_pos (by omega), show 484 + j - 484 = j by omega]
    · have rs := I.rs
      rw [hL0]; dsimp only
      rw [if_neg (by omega), if_pos (by omega), if_neg (by omega), if_pos (by omega), if_neg (by omega), if_pos (by omega)]
      exact ⟨rfl, rfl, rfl⟩
  have hst : X_X9_layAhead_53 n N = XL_X9_layAhead_53_4 XB_X9_layAhead_53_6 1000 n 0 (am_row N 54 L0) := by
    rw [X_X9_layAhead_53, XB_X9_layAhead_53_e, c, ob]
    dsimp only
    have l := lp_lay1 (XB_X9_layAhead_53_3 (XL_X9_layAhead_53_4 XB_X9_layAhead_53_6 1000)) n 40 1000 (am_row N 54 fun j => if 484 ≤ j ∧ j < 484 + 121 then N 54 (0 + (j - 484)) else N 54 j) 0 (by omega) (by omega)
    rw [show ((0 : Nat) : Int) = 0 from rfl] at l
    rw [l, row_row, XB_X9_layAhead_53_3, up_row, row_row]
    refine congrArg (fun F => XL_X9_layAhead_53_4 XB_X9_layAhead_53_6 1000 n 0 (am_row N 54 F)) (funext fun j => ?_)
    rw [hL0, row_s, row_s, hN 54 (by decide)]
    dsimp only
    by_cases c1 : j = 485
    · rw [if_pos c1, if_pos c1, if_neg (by omega), if_neg (by omega)]
    · rw [if_neg c1, if_neg c1]
      by_cases c2 : 484 ≤ j ∧ j < 524
      · rw [if_pos (by omega), if_pos c2]
      · rw [if_neg (by omega), if_neg c2]
        by_cases c3 : 484 ≤ j ∧ j < 605
        · rw [if_pos (by omega), if_pos c3, Nat.zero_add]
        · rw [if_neg (by omega), if_neg c3]
  have hend : ∃ L', XL_X9_layAhead_53_4 XB_X9_layAhead_53_6 1000 n 0 (am_row N 54 L0) = XB_X9_layAhead_53_6 (am_row N 54 L') ∧ LA M n L' := by
    by_cases hs : M 11 0 = 0
    · have h0 := I.2.2.2.2.1.1.2.2.2.2.2.2.2.2 hs
      have : n = 0 := by omega
      subst this
      refine ⟨L0, ?_, hLA⟩
      rw [XL_X9_layAhead_53_4, XB_X9_layAhead_53_4, if_neg (by decide)]
    · have := lp_lay4 XB_X9_layAhead_53_6 I hN hs n hn n 1000 0 L0 hLA (by omega) (by omega)
      rw [show ((0 : Nat) : Int) = 0 from rfl] at this
      exact this
  obtain ⟨L1, e1, q1, q2, q3, q4, q5⟩ := hend
  refine ⟨fun j => if j = 487 then M 54 3 else if j = 486 then M 54 2 else L1 j, ?_, ⟨fun j hj => ?_, q2, q3, fun j h1 h2 => ?_, fun i hi => ?_⟩, rfl, rfl⟩
  · rw [hst, e1, XB_X9_layAhead_53_6]
    simp only [up_row, row_row, row_s]
    rw [q1 2 (by omega), if_neg (by decide), q1 3 (by omega)]
  · dsimp only; rw [if_neg (by omega), if_neg (by omega), q1 j hj]
  · dsimp only; rw [if_neg (by omega), if_neg (by omega), q4 j h1 h2]
  · dsimp only
    rw [if_neg (by omega), if_neg (by omega), if_neg (by omega), if_neg (by omega), if_neg (by omega), if_neg (by omega)]
    exact q5 i hi
theorem sp_ahead {M : am_M} (I : Inv M) {n : Nat} (hn : (n : Int) ≤ M 14 0) : X_X1_borderAhead_14 n M = some (M 17 n, M) := by
  have r0 := I.r0
  simp (disch := omega) only [X_X1_borderAhead_14, wI_of (x := (n : Int)), if_neg, if_pos, Int.toNat_natCast]
theorem Kp.LA {M : am_M} {n : Nat} {L : Nat → Int} (h : LA M n L) : Kp M (am_row M 54 L) := Kp.row54 h.1
theorem sp_lain {M : am_M} (I : Inv M) {n : Nat} (hn : (n : Int) ≤ M 14 0) : ∃ M2, X_X9_lain_53 n M = some (M 17 n, M2) ∧ Kp M M2 := by
  have r0 := I.r0
  obtain ⟨L', e1, e2, e3, e4⟩ := sp_layAhead I (fun _ _ => rfl) n hn
  refine ⟨_, ?_, Kp.LA e2⟩
  rw [X_X9_lain_53, I.d0, wI_of (x := (n : Int)) (by omega) (by omega), wI_of (x := M 14 0) (by omega) (by omega), sp_in M (by unfold iR; omega) i0 (by unfold iR; omega), b2_t (by omega), ob]
  dsimp only
  rw [if_neg (by decide), e1, ob]
  dsimp only
  rw [row_s, e2.2.2.1]
theorem eq_lain {M : am_M} (I : Inv M) {n : Int} (hn : iR n) : Step (X_X8_lain_0 n) (X_X9_lain_53 n) M := gd_lain I hn fun h => by
  have r0 := I.r0
  obtain ⟨k, rfl⟩ := Int.eq_ofNat_of_zero_le h.1
  obtain ⟨M2, e1, e2⟩ := sp_lain I h.2
  refine st_kp I (v := M 17 k) ?_ (Kp.rf M) e1 e2 rfl
  simp (disch := omega) only [X_X8_lain_0, wI_of (x := (k : Int)), wI_of (x := M 14 0), if_neg, sp_ahead I h.2, ob]
theorem eq_undo {M : am_M} (I : Inv M) {n : Int} (hn : iR n) : Step (X_X8_undo_0 n) (X_X9_undo_53 n) M := gd_undo I hn fun h => by
  have r0 := I.r0
  have rs := I.rs
  obtain ⟨k, rfl⟩ := Int.eq_ofNat_of_zero_le h.1
  obtain ⟨⟨o1, o2, o3, o4, o5, o6, o7, o8, o9⟩, ⟨s1, s2⟩, ⟨y1, y2, y3, y4, y5⟩, ⟨p1, p2⟩, hT⟩ := I.2.2.2.2.1
  obtain ⟨M1, hM1⟩ : ∃ M1, M1 = am_up (am_up M 14 1 (M 17 k)) 14 0 k := ⟨_, rfl⟩
  have hc : X_X8_undo_0 k M = some (M 14 0 - k, M1) := by
    simp (disch := omega) only [X_X8_undo_0, X_X1_goBackTo_14, wI_of (x := (k : Int)), wI_of (x := M 14 0), if_neg, sp_ahead I h.2, ob, ← hM1]
  have f : ∀ c, c ≠ 14 → M1 c = M c := fun c q => by rw [hM1, up_a q, up_a q]
  obtain ⟨L', e1, ⟨q1, q2, q3, q4, q5⟩, e3, e4⟩ := sp_layAhead I (N := M1) (fun c hc => f c (by omega)) k h.2
  have cl := sp_copyLand (M := am_row M1 54 L') (a := 484) (b := 0) (by omega) (by omega) (by omega)
  rw [show ((0 : Nat) : Int) = 0 from rfl, show ((484 : Nat) : Int) = 484 from rfl, row_row] at cl
  obtain ⟨L2, hL2⟩ : ∃ L2 : Nat → Int, L2 = fun j => if 0 ≤ j ∧ j < 0 + 121 then (am_row M1 54 L') 54 (484 + (j - 0)) else (am_row M1 54 L') 54 j := ⟨_, rfl⟩
  rw [← hL2] at cl
  have u1 : ∀ j, j < 121 → L2 j = L' (484 + j) := fun j hj => by rw [hL2]; dsimp only; rw [if_pos (by omega), row_s, Nat.sub_zero]
  have u2 : ∀ j, 121 ≤ j → L2 j = L' j := fun j hj => by rw [hL2]; dsimp only; rw [if_neg (by omega), row_s]
  have d0 : M1 54 0 = M 14 0 := by rw [f 54 (by decide), I.d0]
  have hm : X_X9_undo_53 k M1 = some (M 14 0 - k, am_row M1 54 L2) := by
    rw [X_X9_undo_53, d0, wI_of (x := (k : Int)) (by omega) (by omega), wI_of (x := M 14 0) (by omega) (by omega), sp_in M1 (by unfold iR; omega) i0 (by unfold iR; omega), b2_t (by omega), ob]
    dsimp only
    rw [if_neg (by decide), e1, ob]
    dsimp only
    rw [cl, ob, d0]
  refine ⟨_, _, _, _, hc, hm, rfl, ?_⟩
  have z0 : M1 14 0 = k := by rw [hM1, up_s]
  have z1 : M1 14 1 = M 17 k := by rw [hM1, up_j (by decide), up_s]
  have z2 : ∀ j, 2 ≤ j → M1 14 j = M 14 j := fun j hj => by rw [hM1, up_j (by omega), up_j (by omega)]
  refine inv_days I (fun a h1 h2 h3 h4 h5 h6 => by rw [row_a h6, f a h1]) (fun j h1 h2 => by rw [row_s, u2 j h1, q1 j h2]) ?_
  rw [row_a (by decide), row_a (by decide), row_a (by decide), row_a (by decide), row_a (by decide), row_s, f 15 (by decide), f 16 (by decide), f 17 (by decide), f 18 (by decide)]
  refine ⟨⟨?_, ?_, ?_, ?_, ?_, ?_, ?_, ?_, ?_⟩, ⟨s1, fun j hj => ?_⟩, ⟨?_, ?_, y3, fun j hj => ?_, fun j hj => ?_⟩, ⟨p1, fun t i ht hi => ?_⟩, ?_⟩
  · rw [u1 0 (by omega), z0]; exact q2
  · rw [z0]; omega
  · rw [u1 _ (by omega), z1]; exact q3
  · rw [z1]; exact ⟨(y3 k).1, y4 k h.2⟩
  · rw [u1 _ (by omega), z2 2 (by omega)]; exact e3.trans o5
  · rw [u1 _ (by omega), z2 3 (by omega)]; exact e4.trans o6
  · rw [z2 2 (by omega)]; exact o7
  · rw [z2 3 (by omega)]; exact o8
  · intro q; have := o9 q; rw [z0]; omega
  · rw [z0] at hj
    rw [u1 _ (by omega), u1 _ (by omega), q4 _ (by omega) (by omega), q4 _ (by omega) (by omega)]
    exact s2 j (by omega)
  · rw [u1 _ (by omega), q4 _ (by omega) (by omega)]; exact y1
  · rw [z0, z1, Int.toNat_natCast]
  · rw [z0] at hj; exact y4 j (by omega)
  · rw [z0] at hj; exact y5 j (by omega)
  · rw [z0] at ht
    dsimp only
    rw [u1 _ (by omega), q4 _ (by omega) (by omega)]
    exact p2 t i (by omega) hi
  · rw [z0, DI_TT]
    have hT2 := TT_c (h' := M 17) (R' := fun j => L2 (0 + 80 + j)) q5 (fun _ _ => rfl) (fun j hj => by rw [u1 _ (by omega), q4 _ (by omega) (by omega)])
    intro i hi
    have := hT2 i hi
    rw [show 484 + 4 + 3 * i = 484 + (0 + 4 + 3 * i) by omega, ← u1 _ (by omega), show 484 + (0 + 4 + 3 * i) + 1 = 484 + (0 + 4 + 3 * i + 1) by omega, ← u1 _ (by omega), show 484 + (0 + 4 + 3 * i) + 2 = 484 + (0 + 4 + 3 * i + 2) by omega, ← u1 _ (by omega)] at this
    exact this
/-- calls whose answers are not compared: both sides return and the invariant is kept -/
noncomputable def Go (X Y : am_M → am_Rs) (M : am_M) : Prop := ∃ v w M1 M2, X M = some (v, M1) ∧ Y M1 = some (w, M2) ∧ Inv M2
theorem Step.go {X Y : am_M → am_Rs} {M : am_M} (h : Step X Y M) : Go X Y M := by
  obtain ⟨v, w, M1, M2, a, b, -, d⟩ := h
  exact ⟨v, w, M1, M2, a, b, d⟩
theorem StepL.go {X Y : am_M → am_Rs} {M : am_M} (h : StepL X Y M) : Go X Y M := by
  obtain ⟨v, w, M1, M2, a, b, -, d⟩ := h
  exact ⟨v, w, M1, M2, a, b, d⟩
end
section
/-! Lands kept, and gone on from. -/
theorem DI_sh {s : Int} {kd du o a b h p L o' a' b' h' p' L' : Nat → Int} {z z' : Nat} (hs : s ≤ 12) (D : DI s kd du o a b h p L z) (ho : o' 0 = o 0 ∧ o' 1 = o 1 ∧ o' 2 = o 2 ∧ o' 3 = o 3) (ha : ∀ j, j < 40 → a' j = a j) (hb : ∀ j, j < 40 → b' j = b j) (hh : ∀ j, j < 41 → h' j = h j) (hp : ∀ j, j < 96 → p' j = p j) (K : KB a' b' h' p') (hL : ∀ j, j < 121 → L' (z' + j) = L (z + j)) : DI s kd du o' a' b' h' p' L' z' := by
  obtain ⟨⟨o1, o2, o3, o4, o5, o6, o7, o8, o9⟩, ⟨s1, s2⟩, ⟨y1, y2, y3, y4, y5⟩, ⟨p1, p2⟩, hT⟩ := D
  obtain ⟨h0, h1, h2, h3⟩ := ho
  have hL' : ∀ j k, j = z' + k → k < 121 → L' j = L (z + k) := fun j k q hk => by rw [q, hL k hk]
  refine ⟨⟨?_, by rw [h0]; exact o2, ?_, by rw [h1]; exact o4, ?_, ?_, by rw [h2]; exact o7, by rw [h3]; exact o8, by rw [h0]; exact o9⟩, ⟨fun j => ⟨(K j).1, (K j).2.1⟩, fun j hj => ?_⟩, ⟨?_, ?_, fun j => (K j).2.2.1, fun j hj => ?_, fun j hj => ?_⟩, ⟨fun j => (K j).2.2.2, fun t i ht hi => ?_⟩, fun i hi => ?_⟩
  · rw [hL' z' 0 (by omega) (by omega), h0]; exact o1
  · rw [hL' (z' + 1) 1 (by omega) (by omega), h1]; exact o3
  · rw [hL' (z' + 2) 2 (by omega) (by omega), h2]; exact o5
  · rw [hL' (z' + 3) 3 (by omega) (by omega), h3]; exact o6
  · rw [h0] at hj
    have := s2 j hj
    rw [hL' (z' + 40 + j) (40 + j) (by omega) (by omega), hL' (z' + 80 + j) (80 + j) (by omega) (by omega), ha j (by omega), hb j (by omega), ← Nat.add_assoc, ← Nat.add_assoc]
    exact this
  · rw [hL' (z' + 120) 120 (by omega) (by omega), hh 0 (by omega)]; exact y1
  · rw [h0, h1, hh _ (by omega)]; exact y2
  · rw [h0] at hj
    rw [hh j (by omega)]; exact y4 j hj
  · rw [h0] at hj
    rw [hh _ (by omega), hh j (by omega), ha j (by omega), hb j (by omega)]; exact y5 j hj
  · rw [h0] at ht
    dsimp only
    have := p2 t i ht hi
    rw [hL' (z' + 80 + (10 * t + 9)) (80 + (10 * t + 9)) (by omega) (by omega), hh _ (by omega), hp _ (by omega), hp _ (by omega), ← Nat.add_assoc z 80]
    exact this
  · have := hT i hi
    have e : ∀ c : Int, tot kd du h' (fun j => L' (z' + 80 + j)) c i (o 0 / 10).toNat = tot kd du h (fun j => L (z + 80 + j)) c i (o 0 / 10).toNat := fun c => tot_c _ (fun j hj => hh j (by omega)) (fun j hj => by rw [hL' (z' + 80 + j) (80 + j) (by omega) (by omega), ← Nat.add_assoc])
    rw [h0, e, e, chg_c _ (fun j hj => hh j (by omega)), hL' (z' + 4 + 3 * i) (4 + 3 * i) (by omega) (by omega), hL' (z' + 4 + 3 * i + 1) (4 + 3 * i + 1) (by omega) (by omega), hL' (z' + 4 + 3 * i + 2) (4 + 3 * i + 2) (by omega) (by omega), show z + (4 + 3 * i) = z + 4 + 3 * i by omega, show z + (4 + 3 * i + 1) = z + 4 + 3 * i + 1 by omega, show z + (4 + 3 * i + 2) = z + 4 + 3 * i + 2 by omega]
    exact this
theorem KpI_k {s : Int} {kd du k k' o a b h p L L' : Nat → Int} {j z : Nat} (hs : s ≤ 12) (D : KpI s kd du k o a b h p L j z) (hk : k' j = k j) (hL : ∀ j, z ≤ j → j < z + 121 → L' j = L j) : KpI s kd du k' o a b h p L' j z := by
  have := KpI_L hs D hL
  unfold KpI at this ⊢
  rw [hk]; exact this
theorem inv_kept {M M' : am_M} (I : Inv M) (hc : ∀ a, (a < 20 ∨ 35 < a) → a ≠ 54 → M' a = M a) (hL : ∀ j, j < 121 → M' 54 j = M 54 j)
    (hK : KpI (M 11 0) (M 12) (M 13) (M' 35) (M' 20) (M' 21) (M' 22) (M' 23) (M' 24) (M' 54) 0 121 ∧ KpI (M 11 0) (M 12) (M 13) (M' 35) (M' 25) (M' 26) (M' 27) (M' 28) (M' 29) (M' 54) 1 242 ∧ KpI (M 11 0) (M 12) (M 13) (M' 35) (M' 30) (M' 31) (M' 32) (M' 33) (M' 34) (M' 54) 2 363) : Inv M' := by
  have hs := I.2.2.2.1.2.2.1
  have d0 := DI_L (L' := M' 54) hs I.2.2.2.2.1 (fun j _ q => hL j (by omega))
  unfold Inv
  rw [hc 0 (by decide) (by decide), hc 1 (by decide) (by decide), hc 2 (by decide) (by decide), hc 3 (by decide) (by decide), hc 4 (by decide) (by decide), hc 5 (by decide) (by decide), hc 6 (by decide) (by decide), hc 9 (by decide) (by decide), hc 10 (by decide) (by decide), hc 11 (by decide) (by decide), hc 12 (by decide) (by decide), hc 13 (by decide) (by decide), hc 14 (by decide) (by decide), hc 15 (by decide) (by decide), hc 16 (by decide) (by decide), hc 17 (by decide) (by decide), hc 18 (by decide) (by decide), hc 52 (by decide) (by decide), hc 53 (by decide) (by decide), hc 55 (by decide) (by decide), hc 56 (by decide) (by decide), hc 57 (by decide) (by decide), hc 58 (by decide) (by decide), hc 59 (by decide) (by decide), hc 60 (by decide) (by decide), hc 61 (by decide) (by decide)]
  exact ⟨I.1, I.2.1, I.2.2.1, I.2.2.2.1, d0, hK, I.2.2.2.2.2.2⟩
theorem cpy_v {f g : Nat → Int} {n j : Nat} : va_cpy f g 0 0 n j = if j < n then f j else g j := by
  unfold va_cpy
  by_cases c : j < n
  · rw [if_pos (by omega), if_pos c]; congr 1; omega
  · rw [if_neg (by omega), if_neg c]
theorem KB_c {a b h p a1 b1 h1 p1 a' b' h' p' : Nat → Int} (K : KB a b h p) (K1 : KB a1 b1 h1 p1) (ha : ∀ j, a' j = if j < 40 then a j else a1 j) (hb : ∀ j, b' j = if j < 40 then b j else b1 j) (hh : ∀ j, h' j = if j < 41 then h j else h1 j) (hp : ∀ j, p' j = if j < 96 then p j else p1 j) : KB a' b' h' p' := fun j => by
  rw [ha, hb, hh, hp]
  have q := K j
  have q1 := K1 j
  refine ⟨?_, ?_, ?_, ?_⟩ <;> split <;> first | exact q.1 | exact q1.1 | exact q.2.1 | exact q1.2.1 | exact q.2.2.1 | exact q1.2.2.1 | exact q.2.2.2 | exact q1.2.2.2
theorem DI.kb {s : Int} {kd du o a b h p L : Nat → Int} {z : Nat} (D : DI s kd du o a b h p L z) : KB a b h p := fun j => ⟨(D.2.1.1 j).1, (D.2.1.1 j).2, D.2.2.1.2.2.1 j, D.2.2.2.1.1 j⟩
theorem sp_carry_14_20 (M : am_M) : ∃ M', X_X1_carry_14_20 M = some (0, M') ∧ (∀ c, (c < 20 ∨ 24 < c) → M' c = M c) ∧ (M' 20 0 = M 14 0 ∧ M' 20 1 = M 14 1 ∧ M' 20 2 = M 14 2 ∧ M' 20 3 = M 14 3) ∧ (∀ j, M' 21 j = if j < 40 then M 15 j else M 21 j) ∧ (∀ j, M' 22 j = if j < 40 then M 16 j else M 22 j) ∧ (∀ j, M' 23 j = if j < 41 then M 17 j else M 23 j) ∧ ∀ j, M' 24 j = if j < 96 then M 18 j else M 24 j := by
  refine ⟨_, rfl, fun c hc => ?_, ⟨rfl, rfl, rfl, rfl⟩, fun j => ?_, fun j => ?_, fun j => ?_, fun j => ?_⟩
  · rw [cpy_a (by omega), cpy_a (by omega), cpy_a (by omega), cpy_a (by omega), up_a (by omega), up_a (by omega), up_a (by omega), up_a (by omega)]
  · rw [cpy_a (by decide), cpy_a (by decide), cpy_a (by decide), cpy_s, cpy_v]; rfl
  · rw [cpy_a (by decide), cpy_a (by decide), cpy_s, cpy_v]; rfl
  · rw [cpy_a (by decide), cpy_s, cpy_v]; rfl
  · rw [cpy_s, cpy_v]; rfl
theorem sp_carry_20_14 (M : am_M) : ∃ M', X_X1_carry_20_14 M = some (0, M') ∧ (∀ c, (c < 14 ∨ 18 < c) → M' c = M c) ∧ (M' 14 0 = M 20 0 ∧ M' 14 1 = M 20 1 ∧ M' 14 2 = M 20 2 ∧ M' 14 3 = M 20 3) ∧ (∀ j, M' 15 j = if j < 40 then M 21 j else M 15 j) ∧ (∀ j, M' 16 j = if j < 40 then M 22 j else M 16 j) ∧ (∀ j, M' 17 j = if j < 41 then M 23 j else M 17 j) ∧ ∀ j, M' 18 j = if j < 96 then M 24 j else M 18 j := by
  refine ⟨_, rfl, fun c hc => ?_, ⟨rfl, rfl, rfl, rfl⟩, fun j => ?_, fun j => ?_, fun j => ?_, fun j => ?_⟩
  · rw [cpy_a (by omega), cpy_a (by omega), cpy_a (by omega), cpy_a (by omega), up_a (by omega), up_a (by omega), up_a (by omega), up_a (by omega)]
  · rw [cpy_a (by decide), cpy_a (by decide), cpy_a (by decide), cpy_s, cpy_v]; rfl
  · rw [cpy_a (by decide), cpy_a (by decide), cpy_s, cpy_v]; rfl
  · rw [cpy_a (by decide), cpy_s, cpy_v]; rfl
  · rw [cpy_s, cpy_v]; rfl
theorem sp_carry_14_25 (M : am_M) : ∃ M', X_X1_carry_14_25 M = some (0, M') ∧ (∀ c, (c < 25 ∨ 29 < c) → M' c = M c) ∧ (M' 25 0 = M 14 0 ∧ M' 25 1 = M 14 1 ∧ M' 25 2 = M 14 2 ∧ M' 25 3 = M 14 3) ∧ (∀ j, M' 26 j = if j < 40 then M 15 j else M 26 j) ∧ (∀ j, M' 27 j = if j < 40 then M 16 j else M 27 j) ∧ (∀ j, M' 28 j = if j < 41 then M 17 j else M 28 j) ∧ ∀ j, M' 29 j = if j < 96 then M 18 j else M 29 j := by
  refine ⟨_, rfl, fun c hc => ?_, ⟨rfl, rfl, rfl, rfl⟩, fun j => ?_, fun j => ?_, fun j => ?_, fun j => ?_⟩
  · rw [cpy_a (by omega), cpy_a (by omega), cpy_a (by omega), cpy_a (by omega), up_a (by omega), up_a (by omega), up_a (by omega), up_a (by omega)]
  · rw [cpy_a (by decide), cpy_a (by decide), cpy_a (by decide), cpy_s, cpy_v]; rfl
  · rw [cpy_a (by decide), cpy_a (by decide), cpy_s, cpy_v]; rfl
  · rw [cpy_a (by decide), cpy_s, cpy_v]; rfl
  · rw [cpy_s, cpy_v]; rfl
theorem sp_carry_25_14 (M : am_M) : ∃ M', X_X1_carry_25_14 M = some (0, M') ∧ (∀ c, (c < 14 ∨ 18 < c) → M' c = M c) ∧ (M' 14 0 = M 25 0 ∧ M' 14 1 = M 25 1 ∧ M' 14 2 = M 25 2 ∧ M' 14 3 = M 25 3) ∧ (∀ j, M' 15 j = if j < 40 then M 26 j else M 15 j) ∧ (∀ j, M' 16 j = if j < 40 then M 27 j else M 16 j) ∧ (∀ j, M' 17 j = if j < 41 then M 28 j else M 17 j) ∧ ∀ j, M' 18 j = if j < 96 then M 29 j else M 18 j := by
  refine ⟨_, rfl, fun c hc => ?_, ⟨rfl, rfl, rfl, rfl⟩, fun j => ?_, fun j => ?_, fun j => ?_, fun j => ?_⟩
  · rw [cpy_a (by omega), cpy_a (by omega), cpy_a (by omega), cpy_a (by omega), up_a (by omega), up_a (by omega), up_a (by omega), up_a (by omega)]
  · rw [cpy_a (by decide), cpy_a (by decide), cpy_a (by decide), cpy_s, cpy_v]; rfl
  · rw [cpy_a (by decide), cpy_a (by decide), cpy_s, cpy_v]; rfl
  · rw [cpy_a (by decide), cpy_s, cpy_v]; rfl
  · rw [cpy_s, cpy_v]; rfl
theorem sp_carry_14_30 (M : am_M) : ∃ M', X_X1_carry_14_30 M = some (0, M') ∧ (∀ c, (c < 30 ∨ 34 < c) → M' c = M c) ∧ (M' 30 0 = M 14 0 ∧ M' 30 1 = M 14 1 ∧ M' 30 2 = M 14 2 ∧ M' 30 3 = M 14 3) ∧ (∀ j, M' 31 j = if j < 40 then M 15 j else M 31 j) ∧ (∀ j, M' 32 j = if j < 40 then M 16 j else M 32 j) ∧ (∀ j, M' 33 j = if j < 41 then M 17 j else M 33 j) ∧ ∀ j, M' 34 j = if j < 96 then M 18 j else M 34 j := by
  refine ⟨_, rfl, fun c hc => ?_, ⟨rfl, rfl, rfl, rfl⟩, fun j => ?_, fun j => ?_, fun j => ?_, fun j => ?_⟩
  · rw [cpy_a (by omega), cpy_a (by omega), cpy_a (by omega), cpy_a (by omega), up_a (by omega), up_a (by omega), up_a (by omega), up_a (by omega)]
  · rw [cpy_a (by decide), cpy_a (by decide), cpy_a (by decide), cpy_s, cpy_v]; rfl
  · rw [cpy_a (by decide), cpy_a (by decide), cpy_s, cpy_v]; rfl
  · rw [cpy_a (by decide), cpy_s, cpy_v]; rfl
  · rw [cpy_s, cpy_v]; rfl
theorem sp_carry_30_14 (M : am_M) : ∃ M', X_X1_carry_30_14 M = some (0, M') ∧ (∀ c, (c < 14 ∨ 18 < c) → M' c = M c) ∧ (M' 14 0 = M 30 0 ∧ M' 14 1 = M 30 1 ∧ M' 14 2 = M 30 2 ∧ M' 14 3 = M 30 3) ∧ (∀ j, M' 15 j = if j < 40 then M 31 j else M 15 j) ∧ (∀ j, M' 16 j = if j < 40 then M 32 j else M 16 j) ∧ (∀ j, M' 17 j = if j < 41 then M 33 j else M 17 j) ∧ ∀ j, M' 18 j = if j < 96 then M 34 j else M 18 j := by
  refine ⟨_, rfl, fun c hc => ?_, ⟨rfl, rfl, rfl, rfl⟩, fun j => ?_, fun j => ?_, fun j => ?_, fun j => ?_⟩
  · rw [cpy_a (by omega), cpy_a (by omega), cpy_a (by omega), cpy_a (by omega), up_a (by omega), up_a (by omega), up_a (by omega), up_a (by omega)]
  · rw [cpy_a (by decide), cpy_a (by decide), cpy_a (by decide), cpy_s, cpy_v]; rfl
  · rw [cpy_a (by decide), cpy_a (by decide), cpy_s, cpy_v]; rfl
  · rw [cpy_a (by decide), cpy_s, cpy_v]; rfl
  · rw [cpy_s, cpy_v]; rfl
theorem keep_0 {M : am_M} (I : Inv M) (h3 : M 11 0 ≠ 0) : Step (X_X8_keep_0 0) (X_X9_keep_53 0) M := by
  have hG := I.g11
  have es := I.es
  have r0 := I.r0
  have rs := I.rs
  obtain ⟨K1, K2, K3⟩ := I.2.2.2.2.2.1
  have D := I.2.2.2.2.1
  obtain ⟨M1, e1, f1, fo, fa, fb, fh, fp⟩ := sp_carry_14_20 M
  obtain ⟨M2, hM2⟩ : ∃ M2, M2 = am_up M1 35 0 (M 14 0) := ⟨_, rfl⟩
  have f2 : ∀ c, (c < 20 ∨ 24 < c) → c ≠ 35 → M2 c = M c := fun c q1 q2 => by rw [hM2, up_a q2, f1 c q1]
  have f3 : ∀ c, c ≠ 35 → M2 c = M1 c := fun c q => by rw [hM2, up_a q]
  have z0 : M1 14 0 = M 14 0 := by rw [f1 14 (by decide)]
  have hc : X_X8_keep_0 0 M = some (M2 14 0, M2) := by
    simp only [X_X8_keep_0, wI_0, if_true, sp_hasNoLand hG, b2_f h3, ob, wI_0, e1, z0]
    rw [if_neg (by decide), if_pos (by decide), if_pos (by decide)]
    simp only [Int.toNat_zero, show (1 : Int).toNat = 1 from rfl, show (2 : Int).toNat = 2 from rfl, ← hM2]
  have cl := sp_copyLand (M := M2) (a := 0) (b := 121) (by omega) (by omega) (by omega)
  rw [show ((0 : Nat) : Int) = 0 from rfl, f2 54 (by decide) (by decide)] at cl
  obtain ⟨L, hL⟩ : ∃ L : Nat → Int, L = fun j => if 121 ≤ j ∧ j < 121 + 121 then M 54 (0 + (j - 121)) else M 54 j := ⟨_, rfl⟩
  rw [← hL] at cl
  have u1 : ∀ j, j < 121 → L (121 + j) = M 54 (0 + j) := fun j hj => by rw [hL]; dsimp only; rw [if_pos (by omega), show 121 + j - 121 = j by omega]
  have u2 : ∀ j, (j < 121 ∨ 121 + 121 ≤ j) → L j = M 54 j := fun j hj => by rw [hL]; dsimp only; rw [if_neg (by omega)]
  have hm : X_X9_keep_53 0 M2 = some (L 0, am_row M2 54 L) := by
    have w53 : M2 53 1 = M 11 0 := by rw [f2 53 (by decide) (by decide)]; exact es
    rw [X_X9_keep_53, show wI 0 = 0 from rfl, sp_in M2 (by unfold iR; omega) i0 i2, b2_t (by decide), ob]
    dsimp only
    rw [if_neg (by decide), if_neg (show ¬ wI (M2 53 1) = 0 by rw [w53, wI_of (x := M 11 0) (by omega) (by omega)]; exact h3), show (121 : Int) * (1 + 0) = ((121 : Nat) : Int) from rfl, cl, ob]
    dsimp only
    rw [row_s]
  refine ⟨_, _, _, _, hc, hm, ?_, ?_⟩
  · rw [f2 14 (by decide) (by decide), u2 0 (by omega), I.d0]
  · refine inv_kept I (fun a h1 h2 => by rw [row_a h2, f2 a (by omega) (by omega)]) (fun j hj => by rw [row_s, u2 j (by omega)]) ?_
    simp only [row_s, row_a (show 20 ≠ 54 by decide), row_a (show 21 ≠ 54 by decide), row_a (show 22 ≠ 54 by decide), row_a (show 23 ≠ 54 by decide), row_a (show 24 ≠ 54 by decide), row_a (show 25 ≠ 54 by decide), row_a (show 26 ≠ 54 by decide), row_a (show 27 ≠ 54 by decide), row_a (show 28 ≠ 54 by decide), row_a (show 29 ≠ 54 by decide), row_a (show 30 ≠ 54 by decide), row_a (show 31 ≠ 54 by decide), row_a (show 32 ≠ 54 by decide), row_a (show 33 ≠ 54 by decide), row_a (show 34 ≠ 54 by decide), row_a (show 35 ≠ 54 by decide)]
    have k35 : ∀ j, j ≠ 0 → M2 35 j = M 35 j := fun j q => by rw [hM2, up_j q, f1 35 (by decide)]
    have k35s : M2 35 0 = M 14 0 := by rw [hM2, up_s]
    have KB2 : KB (M2 21) (M2 22) (M2 23) (M2 24) := by
      refine KB_c D.kb K1.2.2.2.2 ?_ ?_ ?_ ?_
      · intro j; rw [f3 21 (by decide)]; exact fa j
      · intro j; rw [f3 22 (by decide)]; exact fb j
      · intro j; rw [f3 23 (by decide)]; exact fh j
      · intro j; rw [f3 24 (by decide)]; exact fp j
    have KN : KpI (M 11 0) (M 12) (M 13) (M2 35) (M2 20) (M2 21) (M2 22) (M2 23) (M2 24) L 0 121 := by
      refine ⟨?_, ?_, ?_, fun _ => ⟨?_, ?_⟩, KB2⟩
      · have := u1 0 (by omega)
        rw [k35s]; exact this.trans I.d0
      · rw [k35s]; omega
      · rw [k35s]; omega
      · rw [k35s, f3 20 (by decide)]; exact fo.1
      · refine DI_sh rs.2 D ?_ ?_ ?_ ?_ ?_ KB2 u1
        · rw [f3 20 (by decide)]; exact fo
        · intro j hj; rw [f3 21 (by decide), fa, if_pos hj]
        · intro j hj; rw [f3 22 (by decide), fb, if_pos hj]
        · intro j hj; rw [f3 23 (by decide), fh, if_pos hj]
        · intro j hj; rw [f3 24 (by decide), fp, if_pos hj]
    refine ⟨KN, by rw [f2 25 (by decide) (by decide), f2 26 (by decide) (by decide), f2 27 (by decide) (by decide), f2 28 (by decide) (by decide), f2 29 (by decide) (by decide)]; exact KpI_k rs.2 K2 (k35 1 (by decide)) (fun j h1 h2 => u2 j (by omega)), by rw [f2 30 (by decide) (by decide), f2 31 (by decide) (by decide), f2 32 (by decide) (by decide), f2 33 (by decide) (by decide), f2 34 (by decide) (by decide)]; exact KpI_k rs.2 K3 (k35 2 (by decide)) (fun j h1 h2 => u2 j (by omega))⟩
theorem on_0 {M : am_M} (I : Inv M) (h0 : 0 ≤ M 35 0) : Step (X_X8_on_0 0) (X_X9_on_53 0) M := by
  have rs := I.rs
  have K := I.2.2.2.2.2.1.1
  obtain ⟨kz, kl, kh, kD, kB⟩ := K
  obtain ⟨ko, kD⟩ := kD h0
  have D := I.2.2.2.2.1
  obtain ⟨M1, e1, f1, fo, fa, fb, fh, fp⟩ := sp_carry_20_14 M
  have hc : X_X8_on_0 0 M = some (M1 14 0, M1) := by
    simp only [X_X8_on_0, wI_0, if_true, Int.toNat_zero, show (1 : Int).toNat = 1 from rfl, show (2 : Int).toNat = 2 from rfl, wI_of (x := M 35 0) (by omega) (by omega), e1, ob]
    rw [if_neg (by decide), if_pos (by decide), if_pos (by decide), if_neg (by omega)]
  have cl := sp_copyLand (M := M1) (a := 121) (b := 0) (by omega) (by omega) (by omega)
  rw [show ((0 : Nat) : Int) = 0 from rfl, f1 54 (by decide)] at cl
  obtain ⟨L, hL⟩ : ∃ L : Nat → Int, L = fun j => if 0 ≤ j ∧ j < 0 + 121 then M 54 (121 + (j - 0)) else M 54 j := ⟨_, rfl⟩
  rw [← hL] at cl
  have u1 : ∀ j, j < 121 → L (0 + j) = M 54 (121 + j) := fun j hj => by rw [hL]; dsimp only; rw [if_pos (by omega), show 0 + j - 0 = j by omega]
  have u2 : ∀ j, 121 ≤ j → L j = M 54 j := fun j hj => by rw [hL]; dsimp only; rw [if_neg (by omega)]
  have hm : X_X9_on_53 0 M1 = some (L 0, am_row M1 54 L) := by
    have e0 : ∀ _ : Unit, wI ((121 : Int) * (1 + 0) + 0) = ((121 : Nat) : Int) := fun _ => rfl
    have w54 : M1 54 121 = M 35 0 := by rw [f1 54 (by decide)]; exact kz
    rw [X_X9_on_53, show wI 0 = 0 from rfl, sp_in M1 (by unfold iR; omega) i0 i2, b2_t (by decide), ob]
    dsimp only
    rw [if_neg (by decide), e0 (), Int.toNat_natCast, if_pos (by omega), if_neg (show ¬ wI (M1 54 121) < 0 by rw [w54, wI_of (x := M 35 0) (by omega) (by omega)]; omega), show (121 : Int) * (1 + 0) = ((121 : Nat) : Int) from rfl, cl, ob]
    dsimp only
    rw [row_s]
  refine ⟨_, _, _, _, hc, hm, ?_, ?_⟩
  · rw [fo.1, ko, show L 0 = M 54 121 from u1 0 (by omega), kz]
  · refine inv_days I (fun a h1 h2 h3 h4 h5 h6 => by rw [row_a h6, f1 a (by omega)]) (fun j h1 h2 => by rw [row_s, u2 j h1]) ?_
    rw [row_a (by decide), row_a (by decide), row_a (by decide), row_a (by decide), row_a (by decide), row_s]
    refine DI_sh rs.2 kD fo ?_ ?_ ?_ ?_ ?_ u1
    · intro j hj; rw [fa, if_pos hj]
    · intro j hj; rw [fb, if_pos hj]
    · intro j hj; rw [fh, if_pos hj]
    · intro j hj; rw [fp, if_pos hj]
    · exact KB_c kB D.kb fa fb fh fp
theorem keep_1 {M : am_M} (I : Inv M) (h3 : M 11 0 ≠ 0) : Step (X_X8_keep_0 1) (X_X9_keep_53 1) M := by
  have hG := I.g11
  have es := I.es
  have r0 := I.r0
  have rs := I.rs
  obtain ⟨K1, K2, K3⟩ := I.2.2.2.2.2.1
  have D := I.2.2.2.2.1
  obtain ⟨M1, e1, f1, fo, fa, fb, fh, fp⟩ := sp_carry_14_25 M
  obtain ⟨M2, hM2⟩ : ∃ M2, M2 = am_up M1 35 1 (M 14 0) := ⟨_, rfl⟩
  have f2 : ∀ c, (c < 25 ∨ 29 < c) → c ≠ 35 → M2 c = M c := fun c q1 q2 => by rw [hM2, up_a q2, f1 c q1]
  have f3 : ∀ c, c ≠ 35 → M2 c = M1 c := fun c q => by rw [hM2, up_a q]
  have z0 : M1 14 0 = M 14 0 := by rw [f1 14 (by decide)]
  have hc : X_X8_keep_0 1 M = some (M2 14 0, M2) := by
    simp only [X_X8_keep_0, show wI 1 = 1 from rfl, show ((1 : Int) = 0) = False by simp, show ((1 : Int) = 0 + 1) = True by simp, if_false, if_true, sp_hasNoLand hG, b2_f h3, ob, wI_0, e1, z0]
    rw [if_neg (by decide), if_pos (by decide), if_pos (by decide)]
    simp only [Int.toNat_zero, show (1 : Int).toNat = 1 from rfl, show (2 : Int).toNat = 2 from rfl, ← hM2]
  have cl := sp_copyLand (M := M2) (a := 0) (b := 242) (by omega) (by omega) (by omega)
  rw [show ((0 : Nat) : Int) = 0 from rfl, f2 54 (by decide) (by decide)] at cl
  obtain ⟨L, hL⟩ : ∃ L : Nat → Int, L = fun j => if 242 ≤ j ∧ j < 242 + 121 then M 54 (0 + (j - 242)) else M 54 j := ⟨_, rfl⟩
  rw [← hL] at cl
  have u1 : ∀ j, j < 121 → L (242 + j) = M 54 (0 + j) := fun j hj => by rw [hL]; dsimp only; rw [if_pos (by omega), show 242 + j - 242 = j by omega]
  have u2 : ∀ j, (j < 242 ∨ 242 + 121 ≤ j) → L j = M 54 j := fun j hj => by rw [hL]; dsimp only; rw [if_neg (by omega)]
  have hm : X_X9_keep_53 1 M2 = some (L 0, am_row M2 54 L) := by
    have w53 : M2 53 1 = M 11 0 := by rw [f2 53 (by decide) (by decide)]; exact es
    rw [X_X9_keep_53, show wI 1 = 1 from rfl, sp_in M2 (by unfold iR; omega) i0 i2, b2_t (by decide), ob]
    dsimp only
    rw [if_neg (by decide), if_neg (show ¬ wI (M2 53 1) = 0 by rw [w53, wI_of (x := M 11 0) (by omega) (by omega)]; exact h3), show (121 : Int) * (1 + 1) = ((242 : Nat) : Int) from rfl, cl, ob]
    dsimp only
    rw [row_s]
  refine ⟨_, _, _, _, hc, hm, ?_, ?_⟩
  · rw [f2 14 (by decide) (by decide), u2 0 (by omega), I.d0]
  · refine inv_kept I (fun a h1 h2 => by rw [row_a h2, f2 a (by omega) (by omega)]) (fun j hj => by rw [row_s, u2 j (by omega)]) ?_
    simp only [row_s, row_a (show 20 ≠ 54 by decide), row_a (show 21 ≠ 54 by decide), row_a (show 22 ≠ 54 by decide), row_a (show 23 ≠ 54 by decide), row_a (show 24 ≠ 54 by decide), row_a (show 25 ≠ 54 by decide), row_a (show 26 ≠ 54 by decide), row_a (show 27 ≠ 54 by decide), row_a (show 28 ≠ 54 by decide), row_a (show 29 ≠ 54 by decide), row_a (show 30 ≠ 54 by decide), row_a (show 31 ≠ 54 by decide), row_a (show 32 ≠ 54 by decide), row_a (show 33 ≠ 54 by decide), row_a (show 34 ≠ 54 by decide), row_a (show 35 ≠ 54 by decide)]
    have k35 : ∀ j, j ≠ 1 → M2 35 j = M 35 j := fun j q => by rw [hM2, up_j q, f1 35 (by decide)]
    have k35s : M2 35 1 = M 14 0 := by rw [hM2, up_s]
    have KB2 : KB (M2 26) (M2 27) (M2 28) (M2 29) := by
      refine KB_c D.kb K2.2.2.2.2 ?_ ?_ ?_ ?_
      · intro j; rw [f3 26 (by decide)]; exact fa j
      · intro j; rw [f3 27 (by decide)]; exact fb j
      · intro j; rw [f3 28 (by decide)]; exact fh j
      · intro j; rw [f3 29 (by decide)]; exact fp j
    have KN : KpI (M 11 0) (M 12) (M 13) (M2 35) (M2 25) (M2 26) (M2 27) (M2 28) (M2 29) L 1 242 := by
      refine ⟨?_, ?_, ?_, fun _ => ⟨?_, ?_⟩, KB2⟩
      · have := u1 0 (by omega)
        rw [k35s]; exact this.trans I.d0
      · rw [k35s]; omega
      · rw [k35s]; omega
      · rw [k35s, f3 25 (by decide)]; exact fo.1
      · refine DI_sh rs.2 D ?_ ?_ ?_ ?_ ?_ KB2 u1
        · rw [f3 25 (by decide)]; exact fo
        · intro j hj; rw [f3 26 (by decide), fa, if_pos hj]
        · intro j hj; rw [f3 27 (by decide), fb, if_pos hj]
        · intro j hj; rw [f3 28 (by decide), fh, if_pos hj]
        · intro j hj; rw [f3 29 (by decide), fp, if_pos hj]
    refine ⟨by rw [f2 20 (by decide) (by decide), f2 21 (by decide) (by decide), f2 22 (by decide) (by decide), f2 23 (by decide) (by decide), f2 24 (by decide) (by decide)]; exact KpI_k rs.2 K1 (k35 0 (by decide)) (fun j h1 h2 => u2 j (by omega)), KN, by rw [f2 30 (by decide) (by decide), f2 31 (by decide) (by decide), f2 32 (by decide) (by decide), f2 33 (by decide) (by decide), f2 34 (by decide) (by decide)]; exact KpI_k rs.2 K3 (k35 2 (by decide)) (fun j h1 h2 => u2 j (by omega))⟩
theorem on_1 {M : am_M} (I : Inv M) (h0 : 0 ≤ M 35 1) : Step (X_X8_on_0 1) (X_X9_on_53 1) M := by
  have rs := I.rs
  have K := I.2.2.2.2.2.1.2.1
  obtain ⟨kz, kl, kh, kD, kB⟩ := K
  obtain ⟨ko, kD⟩ := kD h0
  have D := I.2.2.2.2.1
  obtain ⟨M1, e1, f1, fo, fa, fb, fh, fp⟩ := sp_carry_25_14 M
  have hc : X_X8_on_0 1 M = some (M1 14 0, M1) := by
    simp only [X_X8_on_0, show wI 1 = 1 from rfl, show ((1 : Int) = 0) = False by simp, show ((1 : Int) = 0 + 1) = True by simp, if_false, if_true, Int.toNat_zero, show (1 : Int).toNat = 1 from rfl, show (2 : Int).toNat = 2 from rfl, wI_of (x := M 35 1) (by omega) (by omega), e1, ob]
    rw [if_neg (by decide), if_pos (by decide), if_pos (by decide), if_neg (by omega)]
  have cl := sp_copyLand (M := M1) (a := 242) (b := 0) (by omega) (by omega) (by omega)
  rw [show ((0 : Nat) : Int) = 0 from rfl, f1 54 (by decide)] at cl
  obtain ⟨L, hL⟩ : ∃ L : Nat → Int, L = fun j => if 0 ≤ j ∧ j < 0 + 121 then M 54 (242 + (j - 0)) else M 54 j := ⟨_, rfl⟩
  rw [← hL] at cl
  have u1 : ∀ j, j < 121 → L (0 + j) = M 54 (242 + j) := fun j hj => by rw [hL]; dsimp only; rw [if_pos (by omega), show 0 + j - 0 = j by omega]
  have u2 : ∀ j, 121 ≤ j → L j = M 54 j := fun j hj => by rw [hL]; dsimp only; rw [if_neg (by omega)]
  have hm : X_X9_on_53 1 M1 = some (L 0, am_row M1 54 L) := by
    have e0 : ∀ _ : Unit, wI ((121 : Int) * (1 + 1) + 0) = ((242 : Nat) : Int) := fun _ => rfl
    have w54 : M1 54 242 = M 35 1 := by rw [f1 54 (by decide)]; exact kz
    rw [X_X9_on_53, show wI 1 = 1 from rfl, sp_in M1 (by unfold iR; omega) i0 i2, b2_t (by decide), ob]
    dsimp only
    rw [if_neg (by decide), e0 (), Int.toNat_natCast, if_pos (by omega), if_neg (show ¬ wI (M1 54 242) < 0 by rw [w54, wI_of (x := M 35 1) (by omega) (by omega)]; omega), show (121 : Int) * (1 + 1) = ((242 : Nat) : Int) from rfl, cl, ob]
    dsimp only
    rw [row_s]
  refine ⟨_, _, _, _, hc, hm, ?_, ?_⟩
  · rw [fo.1, ko, show L 0 = M 54 242 from u1 0 (by omega), kz]
  · refine inv_days I (fun a h1 h2 h3 h4 h5 h6 => by rw [row_a h6, f1 a (by omega)]) (fun j h1 h2 => by rw [row_s, u2 j h1]) ?_
    rw [row_a (by decide), row_a (by decide), row_a (by decide), row_a (by decide), row_a (by decide), row_s]
    refine DI_sh rs.2 kD fo ?_ ?_ ?_ ?_ ?_ u1
    · intro j hj; rw [fa, if_pos hj]
    · intro j hj; rw [fb, if_pos hj]
    · intro j hj; rw [fh, if_pos hj]
    · intro j hj; rw [fp, if_pos hj]
    · exact KB_c kB D.kb fa fb fh fp
theorem keep_2 {M : am_M} (I : Inv M) (h3 : M 11 0 ≠ 0) : Step (X_X8_keep_0 2) (X_X9_keep_53 2) M := by
  have hG := I.g11
  have es := I.es
  have r0 := I.r0
  have rs := I.rs
  obtain ⟨K1, K2, K3⟩ := I.2.2.2.2.2.1
  have D := I.2.2.2.2.1
  obtain ⟨M1, e1, f1, fo, fa, fb, fh, fp⟩ := sp_carry_14_30 M
  obtain ⟨M2, hM2⟩ : ∃ M2, M2 = am_up M1 35 2 (M 14 0) := ⟨_, rfl⟩
  have f2 : ∀ c, (c < 30 ∨ 34 < c) → c ≠ 35 → M2 c = M c := fun c q1 q2 => by rw [hM2, up_a q2, f1 c q1]
  have f3 : ∀ c, c ≠ 35 → M2 c = M1 c := fun c q => by rw [hM2, up_a q]
  have z0 : M1 14 0 = M 14 0 := by rw [f1 14 (by decide)]
  have hc : X_X8_keep_0 2 M = some (M2 14 0, M2) := by
    simp only [X_X8_keep_0, show wI 2 = 2 from rfl, show ((2 : Int) = 0) = False by simp, show ((2 : Int) = 0 + 1) = False by simp, show ((2 : Int) = 0 + 1 + 1) = True by simp, if_false, if_true, sp_hasNoLand hG, b2_f h3, ob, wI_0, e1, z0]
    rw [if_neg (by decide), if_pos (by decide), if_pos (by decide)]
    simp only [Int.toNat_zero, show (1 : Int).toNat = 1 from rfl, show (2 : Int).toNat = 2 from rfl, ← hM2]
  have cl := sp_copyLand (M := M2) (a := 0) (b := 363) (by omega) (by omega) (by omega)
  rw [show ((0 : Nat) : Int) = 0 from rfl, f2 54 (by decide) (by decide)] at cl
  obtain ⟨L, hL⟩ : ∃ L : Nat → Int, L = fun j => if 363 ≤ j ∧ j < 363 + 121 then M 54 (0 + (j - 363)) else M 54 j := ⟨_, rfl⟩
  rw [← hL] at cl
  have u1 : ∀ j, j < 121 → L (363 + j) = M 54 (0 + j) := fun j hj => by rw [hL]; dsimp only; rw [if_pos (by omega), show 363 + j - 363 = j by omega]
  have u2 : ∀ j, (j < 363 ∨ 363 + 121 ≤ j) → L j = M 54 j := fun j hj => by rw [hL]; dsimp only; rw [if_neg (by omega)]
  have hm : X_X9_keep_53 2 M2 = some (L 0, am_row M2 54 L) := by
    have w53 : M2 53 1 = M 11 0 := by rw [f2 53 (by decide) (by decide)]; exact es
    rw [X_X9_keep_53, show wI 2 = 2 from rfl, sp_in M2 (by unfold iR; omega) i0 i2, b2_t (by decide), ob]
    dsimp only
    rw [if_neg (by decide), if_neg (show ¬ wI (M2 53 1) = 0 by rw [w53, wI_of (x := M 11 0) (by omega) (by omega)]; exact h3), show (121 : Int) * (1 + 2) = ((363 : Nat) : Int) from rfl, cl, ob]
    dsimp only
    rw [row_s]
  refine ⟨_, _, _, _, hc, hm, ?_, ?_⟩
  · rw [f2 14 (by decide) (by decide), u2 0 (by omega), I.d0]
  · refine inv_kept I (fun a h1 h2 => by rw [row_a h2, f2 a (by omega) (by omega)]) (fun j hj => by rw [row_s, u2 j (by omega)]) ?_
    simp only [row_s, row_a (show 20 ≠ 54 by decide), row_a (show 21 ≠ 54 by decide), row_a (show 22 ≠ 54 by decide), row_a (show 23 ≠ 54 by decide), row_a (show 24 ≠ 54 by decide), row_a (show 25 ≠ 54 by decide), row_a (show 26 ≠ 54 by decide), row_a (show 27 ≠ 54 by decide), row_a (show 28 ≠ 54 by decide), row_a (show 29 ≠ 54 by decide), row_a (show 30 ≠ 54 by decide), row_a (show 31 ≠ 54 by decide), row_a (show 32 ≠ 54 by decide), row_a (show 33 ≠ 54 by decide), row_a (show 34 ≠ 54 by decide), row_a (show 35 ≠ 54 by decide)]
    have k35 : ∀ j, j ≠ 2 → M2 35 j = M 35 j := fun j q => by rw [hM2, up_j q, f1 35 (by decide)]
    have k35s : M2 35 2 = M 14 0 := by rw [hM2, up_s]
    have KB2 : KB (M2 31) (M2 32) (M2 33) (M2 34) := by
      refine KB_c D.kb K3.2.2.2.2 ?_ ?_ ?_ ?_
      · intro j; rw [f3 31 (by decide)]; exact fa j
      · intro j; rw [f3 32 (by decide)]; exact fb j
      · intro j; rw [f3 33 (by decide)]; exact fh j
      · intro j; rw [f3 34 (by decide)]; exact fp j
    have KN : KpI (M 11 0) (M 12) (M 13) (M2 35) (M2 30) (M2 31) (M2 32) (M2 33) (M2 34) L 2 363 := by
      refine ⟨?_, ?_, ?_, fun _ => ⟨?_, ?_⟩, KB2⟩
      · have := u1 0 (by omega)
        rw [k35s]; exact this.trans I.d0
      · rw [k35s]; omega
      · rw [k35s]; omega
      · rw [k35s, f3 30 (by decide)]; exact fo.1
      · refine DI_sh rs.2 D ?_ ?_ ?_ ?_ ?_ KB2 u1
        · rw [f3 30 (by decide)]; exact fo
        · intro j hj; rw [f3 31 (by decide), fa, if_pos hj]
        · intro j hj; rw [f3 32 (by decide), fb, if_pos hj]
        · intro j hj; rw [f3 33 (by decide), fh, if_pos hj]
        · intro j hj; rw [f3 34 (by decide), fp, if_pos hj]
    refine ⟨by rw [f2 20 (by decide) (by decide), f2 21 (by decide) (by decide), f2 22 (by decide) (by decide), f2 23 (by decide) (by decide), f2 24 (by decide) (by decide)]; exact KpI_k rs.2 K1 (k35 0 (by decide)) (fun j h1 h2 => u2 j (by omega)), by rw [f2 25 (by decide) (by decide), f2 26 (by decide) (by decide), f2 27 (by decide) (by decide), f2 28 (by decide) (by decide), f2 29 (by decide) (by decide)]; exact KpI_k rs.2 K2 (k35 1 (by decide)) (fun j h1 h2 => u2 j (by omega)), KN⟩
theorem on_2 {M : am_M} (I : Inv M) (h0 : 0 ≤ M 35 2) : Step (X_X8_on_0 2) (X_X9_on_53 2) M := by
  have rs := I.rs
  have K := I.2.2.2.2.2.1.2.2
  obtain ⟨kz, kl, kh, kD, kB⟩ := K
  obtain ⟨ko, kD⟩ := kD h0
  have D := I.2.2.2.2.1
  obtain ⟨M1, e1, f1, fo, fa, fb, fh, fp⟩ := sp_carry_30_14 M
  have hc : X_X8_on_0 2 M = some (M1 14 0, M1) := by
    simp only [X_X8_on_0, show wI 2 = 2 from rfl, show ((2 : Int) = 0) = False by simp, show ((2 : Int) = 0 + 1) = False by simp, show ((2 : Int) = 0 + 1 + 1) = True by simp, if_false, if_true, Int.toNat_zero, show (1 : Int).toNat = 1 from rfl, show (2 : Int).toNat = 2 from rfl, wI_of (x := M 35 2) (by omega) (by omega), e1, ob]
    rw [if_neg (by decide), if_pos (by decide), if_pos (by decide), if_neg (by omega)]
  have cl := sp_copyLand (M := M1) (a := 363) (b := 0) (by omega) (by omega) (by omega)
  rw [show ((0 : Nat) : Int) = 0 from rfl, f1 54 (by decide)] at cl
  obtain ⟨L, hL⟩ : ∃ L : Nat → Int, L = fun j => if 0 ≤ j ∧ j < 0 + 121 then M 54 (363 + (j - 0)) else M 54 j := ⟨_, rfl⟩
  rw [← hL] at cl
  have u1 : ∀ j, j < 121 → L (0 + j) = M 54 (363 + j) := fun j hj => by rw [hL]; dsimp only; rw [if_pos (by omega), show 0 + j - 0 = j by omega]
  have u2 : ∀ j, 121 ≤ j → L j = M 54 j := fun j hj => by rw [hL]; dsimp only; rw [if_neg (by omega)]
  have hm : X_X9_on_53 2 M1 = some (L 0, am_row M1 54 L) := by
    have e0 : ∀ _ : Unit, wI ((121 : Int) * (1 + 2) + 0) = ((363 : Nat) : Int) := fun _ => rfl
    have w54 : M1 54 363 = M 35 2 := by rw [f1 54 (by decide)]; exact kz
    rw [X_X9_on_53, show wI 2 = 2 from rfl, sp_in M1 (by unfold iR; omega) i0 i2, b2_t (by decide), ob]
    dsimp only
    rw [if_neg (by decide), e0 (), Int.toNat_natCast, if_pos (by omega), if_neg (show ¬ wI (M1 54 363) < 0 by rw [w54, wI_of (x := M 35 2) (by omega) (by omega)]; omega), show (121 : Int) * (1 + 2) = ((363 : Nat) : Int) from rfl, cl, ob]
    dsimp only
    rw [row_s]
  refine ⟨_, _, _, _, hc, hm, ?_, ?_⟩
  · rw [fo.1, ko, show L 0 = M 54 363 from u1 0 (by omega), kz]
  · refine inv_days I (fun a h1 h2 h3 h4 h5 h6 => by rw [row_a h6, f1 a (by omega)]) (fun j h1 h2 => by rw [row_s, u2 j h1]) ?_
    rw [row_a (by decide), row_a (by decide), row_a (by decide), row_a (by decide), row_a (by decide), row_s]
    refine DI_sh rs.2 kD fo ?_ ?_ ?_ ?_ ?_ u1
    · intro j hj; rw [fa, if_pos hj]
    · intro j hj; rw [fb, if_pos hj]
    · intro j hj; rw [fh, if_pos hj]
    · intro j hj; rw [fp, if_pos hj]
    · exact KB_c kB D.kb fa fb fh fp
theorem eq_keep {M : am_M} (I : Inv M) {k : Int} (hk : iR k) : Step (X_X8_keep_0 k) (X_X9_keep_53 k) M := gd_keep I hk fun h1 h2 => by
  rcases (show k = 0 ∨ k = 1 ∨ k = 2 by omega) with rfl | rfl | rfl
  · exact keep_0 I h2
  · exact keep_1 I h2
  · exact keep_2 I h2
theorem eq_on {M : am_M} (I : Inv M) {k : Int} (hk : iR k) : Step (X_X8_on_0 k) (X_X9_on_53 k) M := gd_on I hk fun h1 h2 => by
  rcases (show k = 0 ∨ k = 1 ∨ k = 2 by omega) with rfl | rfl | rfl
  · exact on_0 I h2
  · exact on_1 I h2
  · exact on_2 I h2
end
