/-! What is kept: memory that agrees but for scratch; the land as both sides have it. -/
noncomputable def Kp (M M' : am_M) : Prop := (∀ a, (a ≤ 6 ∨ (9 ≤ a ∧ a ≤ 35) ∨ a = 52 ∨ (55 ≤ a ∧ a ≤ 61)) → M' a = M a) ∧ (∀ j, (j = 1 ∨ (8 ≤ j ∧ j ≤ 11)) → M' 53 j = M 53 j) ∧ ∀ j, j < 484 → M' 54 j = M 54 j
theorem Kp.rf (M : am_M) : Kp M M := ⟨fun _ _ => rfl, fun _ _ => rfl, fun _ _ => rfl⟩
theorem Kp.tr {M M1 M2 : am_M} (h : Kp M M1) (g : Kp M1 M2) : Kp M M2 := ⟨fun a q => (g.1 a q).trans (h.1 a q), fun j q => (g.2.1 j q).trans (h.2.1 j q), fun j q => (g.2.2 j q).trans (h.2.2 j q)⟩
theorem Kp.row {M : am_M} {a : Nat} {f : Nat → Int} (h : a = 7 ∨ a = 8 ∨ (36 ≤ a ∧ a ≤ 51) ∨ 62 ≤ a) : Kp M (am_row M a f) :=
  ⟨fun b q => row_a (by omega), fun j _ => by rw [row_a (by omega)], fun j _ => by rw [row_a (by omega)]⟩
theorem Kp.up {M : am_M} {a k : Nat} {x : Int} (h : a = 7 ∨ a = 8 ∨ (36 ≤ a ∧ a ≤ 51) ∨ 62 ≤ a) : Kp M (am_up M a k x) :=
  ⟨fun b q => up_a (by omega), fun j _ => by rw [up_a (by omega)], fun j _ => by rw [up_a (by omega)]⟩
theorem Kp.up53 {M : am_M} {k : Nat} {x : Int} (h : k ≠ 1 ∧ (k < 8 ∨ 11 < k)) : Kp M (am_up M 53 k x) :=
  ⟨fun b q => up_a (by omega), fun j q => up_j (by omega), fun j _ => by rw [up_a (by decide)]⟩
theorem Kp.row54 {M : am_M} {f : Nat → Int} (h : ∀ j, j < 484 → f j = M 54 j) : Kp M (am_row M 54 f) :=
  ⟨fun b q => row_a (by omega), fun j _ => by rw [row_a (by decide)], fun j q => by rw [row_s]; exact h j q⟩
theorem Kp.up54 {M : am_M} {k : Nat} {x : Int} (h : 484 ≤ k) : Kp M (am_up M 54 k x) :=
  ⟨fun b q => up_a (by omega), fun j _ => by rw [up_a (by decide)], fun j q => up_j (by omega)⟩
theorem Kp.inv {M M' : am_M} (I : Inv M) (h : Kp M M') : Inv M' := by
  obtain ⟨h1, h2, h3⟩ := h
  have hs := I.2.2.2.1.2.2.1
  have d0 := DI_L (L' := M' 54) hs I.2.2.2.2.1 (fun j _ q => h3 j (by omega))
  have k1 := KpI_L (L' := M' 54) hs I.2.2.2.2.2.1.1 (fun j _ q => h3 j (by omega))
  have k2 := KpI_L (L' := M' 54) hs I.2.2.2.2.2.1.2.1 (fun j _ q => h3 j (by omega))
  have k3 := KpI_L (L' := M' 54) hs I.2.2.2.2.2.1.2.2 (fun j _ q => h3 j (by omega))
  obtain ⟨t1, t2, t3, t4, t5⟩ := I.2.2.2.2.2.2
  have g : ∀ a, (a ≤ 6 ∨ (9 ≤ a ∧ a ≤ 35) ∨ a = 52 ∨ (55 ≤ a ∧ a ≤ 61)) → M' a = M a := h1
  unfold Inv TlI
  rw [g 0 (by decide), g 1 (by decide), g 2 (by decide), g 3 (by decide), g 4 (by decide), g 5 (by decide), g 6 (by decide), g 9 (by decide), g 10 (by decide), g 11 (by decide), g 12 (by decide), g 13 (by decide), g 14 (by decide), g 15 (by decide), g 16 (by decide), g 17 (by decide), g 18 (by decide), g 20 (by decide), g 21 (by decide), g 22 (by decide), g 23 (by decide), g 24 (by decide), g 25 (by decide), g 26 (by decide), g 27 (by decide), g 28 (by decide), g 29 (by decide), g 30 (by decide), g 31 (by decide), g 32 (by decide), g 33 (by decide), g 34 (by decide), g 35 (by decide), g 52 (by decide), g 55 (by decide), g 56 (by decide), g 57 (by decide), g 58 (by decide), g 59 (by decide), g 60 (by decide), g 61 (by decide), h2 1 (by decide), h2 8 (by decide), h2 9 (by decide), h2 10 (by decide), h2 11 (by decide)]
  exact ⟨I.1, I.2.1, I.2.2.1, I.2.2.2.1, d0, ⟨k1, k2, k3⟩, t1, t2, t3, t4, t5⟩
theorem st_kp {X Y : am_M → am_Rs} {M M1 M2 : am_M} (I : Inv M) {v w : Int} (h1 : X M = some (v, M1)) (k1 : Kp M M1) (h2 : Y M1 = some (w, M2)) (k2 : Kp M1 M2) (h : wI v = wI w) : Step X Y M := ⟨v, w, M1, M2, h1, h2, h, Kp.inv I (k1.tr k2)⟩
/-- the invariant but for what is told -/
noncomputable def Ib (M : am_M) : Prop := CnI (M 1) (M 4) ∧ RwI (M 2) (M 3) (M 57) (M 58) ∧ TxI (M 5) (M 6) (M 59) (M 60) ∧ GrI (M 9) (M 10) (M 11 0) (M 12) (M 13) (M 53 1) (M 55) (M 56) ∧ DI (M 11 0) (M 12) (M 13) (M 14) (M 15) (M 16) (M 17) (M 18) (M 54) 0
theorem Inv.b {M : am_M} (I : Inv M) : Ib M := ⟨I.1, I.2.1, I.2.2.1, I.2.2.2.1, I.2.2.2.2.1⟩
theorem Ib.sh1 {M : am_M} (I : Ib M) : Sh1 M := ⟨I.1.1, I.1.2.1, I.1.2.2.1, I.2.1.2.1⟩
theorem Ib.sh4 {M : am_M} (I : Ib M) : Sh4 M := ⟨I.1.2.2.2.1, I.1.2.2.2.2.1, I.1.2.2.2.2.2, I.2.2.1.2.1⟩
theorem Ib.g11 {M : am_M} (I : Ib M) : Gd11 M := ⟨by have := I.2.2.2.1.2.1; omega, I.2.2.2.1.2.2.1, I.2.2.2.1.2.2.2.1, I.2.2.2.1.2.2.2.2.1⟩
theorem Ib.gM {M : am_M} (I : Ib M) : GdM M := ⟨by have := I.2.2.2.1.1; have := I.2.2.2.1.2.1; omega, by have := I.2.2.2.1.1; have := I.2.2.2.1.2.2.1; omega, I.2.2.2.1.2.2.2.2.2.1, I.2.2.2.1.2.2.2.2.2.2.1⟩
/-- memory that agrees but for scratch and what is told -/
noncomputable def Kb (M M' : am_M) : Prop := (∀ a, ((1 ≤ a ∧ a ≤ 6) ∨ (9 ≤ a ∧ a ≤ 18) ∨ (55 ≤ a ∧ a ≤ 60)) → M' a = M a) ∧ M' 53 1 = M 53 1 ∧ ∀ j, j < 121 → M' 54 j = M 54 j
theorem Kb.rf (M : am_M) : Kb M M := ⟨fun _ _ => rfl, rfl, fun _ _ => rfl⟩
theorem Kb.tr {M M1 M2 : am_M} (h : Kb M M1) (g : Kb M1 M2) : Kb M M2 := ⟨fun a q => (g.1 a q).trans (h.1 a q), g.2.1.trans h.2.1, fun j q => (g.2.2 j q).trans (h.2.2 j q)⟩
theorem Kp.b {M M' : am_M} (h : Kp M M') : Kb M M' := ⟨fun a q => h.1 a (by omega), h.2.1 1 (by decide), fun j q => h.2.2 j (by omega)⟩
theorem Kb.ib {M M' : am_M} (I : Ib M) (h : Kb M M') : Ib M' := by
  obtain ⟨g, h2, h3⟩ := h
  have hs := I.2.2.2.1.2.2.1
  have d0 := DI_L (L' := M' 54) hs I.2.2.2.2 (fun j _ q => h3 j (by omega))
  unfold Ib
  rw [g 1 (by decide), g 2 (by decide), g 3 (by decide), g 4 (by decide), g 5 (by decide), g 6 (by decide), g 9 (by decide), g 10 (by decide), g 11 (by decide), g 12 (by decide), g 13 (by decide), g 14 (by decide), g 15 (by decide), g 16 (by decide), g 17 (by decide), g 18 (by decide), g 55 (by decide), g 56 (by decide), g 57 (by decide), g 58 (by decide), g 59 (by decide), g 60 (by decide), h2]
  exact ⟨I.1, I.2.1, I.2.2.1, I.2.2.2.1, d0⟩
theorem Kb.ct (M : am_M) (v : Int) : Kb M (cT v M) := ⟨fun a q => up_a (by omega), rfl, fun _ _ => rfl⟩
theorem Kb.cf (M : am_M) (f : Nat) : Kb M (cF f M) := ⟨fun a q => by unfold cF; rw [up_a (by omega), up_a (by omega)], rfl, fun _ _ => rfl⟩
/-- the numbers of the land: 53's and 54's are 11's and 14's -/
theorem Ib.es {M : am_M} (I : Ib M) : M 53 1 = M 11 0 := I.2.2.2.1.1
theorem Ib.d0 {M : am_M} (I : Ib M) : M 54 0 = M 14 0 := I.2.2.2.2.1.1
theorem Ib.d1 {M : am_M} (I : Ib M) : M 54 1 = M 14 1 := I.2.2.2.2.1.2.2.1
theorem Ib.d2 {M : am_M} (I : Ib M) : M 54 2 = M 14 2 := I.2.2.2.2.1.2.2.2.2.1
theorem Ib.d3 {M : am_M} (I : Ib M) : M 54 3 = M 14 3 := I.2.2.2.2.1.2.2.2.2.2.1
theorem Ib.r0 {M : am_M} (I : Ib M) : 0 ≤ M 14 0 ∧ M 14 0 ≤ 40 := I.2.2.2.2.1.2.1
theorem Ib.r1 {M : am_M} (I : Ib M) : 0 ≤ M 14 1 ∧ M 14 1 ≤ M 11 0 := I.2.2.2.2.1.2.2.2.1
theorem Ib.r2 {M : am_M} (I : Ib M) : 0 ≤ M 14 2 ∧ M 14 2 ≤ 9 := I.2.2.2.2.1.2.2.2.2.2.2.1
theorem Ib.r3 {M : am_M} (I : Ib M) : 0 ≤ M 14 3 ∧ M 14 3 ≤ 9 := I.2.2.2.2.1.2.2.2.2.2.2.2.1
theorem Ib.rs {M : am_M} (I : Ib M) : 0 ≤ M 11 0 ∧ M 11 0 ≤ 12 := ⟨I.g11.1, I.g11.2.1⟩
theorem Ib.kd {M : am_M} (I : Ib M) {i : Nat} (h : (i : Int) < M 11 0) : M 55 i = M 12 i := (I.2.2.2.1.2.2.2.2.2.2.2.1 i h).1
theorem Ib.du {M : am_M} (I : Ib M) {i : Nat} (h : (i : Int) < M 11 0) : M 56 i = M 13 i := (I.2.2.2.1.2.2.2.2.2.2.2.1 i h).2
theorem Inv.es {M : am_M} (I : Inv M) : M 53 1 = M 11 0 := I.b.es
theorem Inv.d0 {M : am_M} (I : Inv M) : M 54 0 = M 14 0 := I.b.d0
theorem Inv.d1 {M : am_M} (I : Inv M) : M 54 1 = M 14 1 := I.b.d1
theorem Inv.d2 {M : am_M} (I : Inv M) : M 54 2 = M 14 2 := I.b.d2
theorem Inv.d3 {M : am_M} (I : Inv M) : M 54 3 = M 14 3 := I.b.d3
theorem Inv.r0 {M : am_M} (I : Inv M) : 0 ≤ M 14 0 ∧ M 14 0 ≤ 40 := I.b.r0
theorem Inv.r1 {M : am_M} (I : Inv M) : 0 ≤ M 14 1 ∧ M 14 1 ≤ M 11 0 := I.b.r1
theorem Inv.r2 {M : am_M} (I : Inv M) : 0 ≤ M 14 2 ∧ M 14 2 ≤ 9 := I.b.r2
theorem Inv.r3 {M : am_M} (I : Inv M) : 0 ≤ M 14 3 ∧ M 14 3 ≤ 9 := I.b.r3
theorem Inv.rs {M : am_M} (I : Inv M) : 0 ≤ M 11 0 ∧ M 11 0 ≤ 12 := I.b.rs
theorem Inv.kd {M : am_M} (I : Inv M) {i : Nat} (h : (i : Int) < M 11 0) : M 55 i = M 12 i := I.b.kd h
theorem Inv.du {M : am_M} (I : Inv M) {i : Nat} (h : (i : Int) < M 11 0) : M 56 i = M 13 i := I.b.du h
/-- the land and the day's numbers alone -/
noncomputable def Ic (M : am_M) : Prop := GrI (M 9) (M 10) (M 11 0) (M 12) (M 13) (M 53 1) (M 55) (M 56) ∧ DyO (M 11 0) (M 14) (M 54) 0
theorem Ib.c {M : am_M} (I : Ib M) : Ic M := ⟨I.2.2.2.1, I.2.2.2.2.1⟩
theorem Ic.g11 {M : am_M} (I : Ic M) : Gd11 M := ⟨by have := I.1.2.1; omega, I.1.2.2.1, I.1.2.2.2.1, I.1.2.2.2.2.1⟩
theorem Ic.gM {M : am_M} (I : Ic M) : GdM M := ⟨by have := I.1.1; have := I.1.2.1; omega, by have := I.1.1; have := I.1.2.2.1; omega, I.1.2.2.2.2.2.1, I.1.2.2.2.2.2.2.1⟩
theorem Ic.es {M : am_M} (I : Ic M) : M 53 1 = M 11 0 := I.1.1
theorem Ic.d0 {M : am_M} (I : Ic M) : M 54 0 = M 14 0 := I.2.1
theorem Ic.d1 {M : am_M} (I : Ic M) : M 54 1 = M 14 1 := I.2.2.2.1
theorem Ic.d2 {M : am_M} (I : Ic M) : M 54 2 = M 14 2 := I.2.2.2.2.2.1
theorem Ic.d3 {M : am_M} (I : Ic M) : M 54 3 = M 14 3 := I.2.2.2.2.2.2.1
theorem Ic.r0 {M : am_M} (I : Ic M) : 0 ≤ M 14 0 ∧ M 14 0 ≤ 40 := I.2.2.1
theorem Ic.r1 {M : am_M} (I : Ic M) : 0 ≤ M 14 1 ∧ M 14 1 ≤ M 11 0 := I.2.2.2.2.1
theorem Ic.r2 {M : am_M} (I : Ic M) : 0 ≤ M 14 2 ∧ M 14 2 ≤ 9 := I.2.2.2.2.2.2.2.1
theorem Ic.r3 {M : am_M} (I : Ic M) : 0 ≤ M 14 3 ∧ M 14 3 ≤ 9 := I.2.2.2.2.2.2.2.2.1
theorem Ic.rs {M : am_M} (I : Ic M) : 0 ≤ M 11 0 ∧ M 11 0 ≤ 12 := ⟨I.g11.1, I.g11.2.1⟩
theorem Ic.kd {M : am_M} (I : Ic M) {i : Nat} (h : (i : Int) < M 11 0) : M 55 i = M 12 i := (I.1.2.2.2.2.2.2.2.1 i h).1
theorem Ic.du {M : am_M} (I : Ic M) {i : Nat} (h : (i : Int) < M 11 0) : M 56 i = M 13 i := (I.1.2.2.2.2.2.2.2.1 i h).2
/-- memory that agrees on the land and the day's numbers -/
noncomputable def Kc (M M' : am_M) : Prop := (∀ a, ((9 ≤ a ∧ a ≤ 14) ∨ a = 55 ∨ a = 56) → M' a = M a) ∧ M' 53 1 = M 53 1 ∧ ∀ j, j < 4 → M' 54 j = M 54 j
theorem Kc.rf (M : am_M) : Kc M M := ⟨fun _ _ => rfl, rfl, fun _ _ => rfl⟩
theorem Kc.tr {M M1 M2 : am_M} (h : Kc M M1) (g : Kc M1 M2) : Kc M M2 := ⟨fun a q => (g.1 a q).trans (h.1 a q), g.2.1.trans h.2.1, fun j q => (g.2.2 j q).trans (h.2.2 j q)⟩
theorem Kb.c {M M' : am_M} (h : Kb M M') : Kc M M' := ⟨fun a q => h.1 a (by omega), h.2.1, fun j q => h.2.2 j (by omega)⟩
theorem Kc.row {M : am_M} {a : Nat} {f : Nat → Int} (h : ¬ ((9 ≤ a ∧ a ≤ 14) ∨ (53 ≤ a ∧ a ≤ 56))) : Kc M (am_row M a f) :=
  ⟨fun b q => row_a (by omega), by rw [row_a (by omega)], fun j _ => by rw [row_a (by omega)]⟩
theorem Kc.up {M : am_M} {a k : Nat} {x : Int} (h : ¬ ((9 ≤ a ∧ a ≤ 14) ∨ (53 ≤ a ∧ a ≤ 56))) : Kc M (am_up M a k x) :=
  ⟨fun b q => up_a (by omega), by rw [up_a (by omega)], fun j _ => by rw [up_a (by omega)]⟩
theorem Kc.up53 {M : am_M} {k : Nat} {x : Int} (h : k ≠ 1) : Kc M (am_up M 53 k x) :=
  ⟨fun b q => up_a (by omega), up_j (by omega), fun j _ => by rw [up_a (by decide)]⟩
theorem Kc.ic {M M' : am_M} (I : Ic M) (h : Kc M M') : Ic M' := by
  obtain ⟨g, h2, h3⟩ := h
  unfold Ic DyO
  rw [g 9 (by decide), g 10 (by decide), g 11 (by decide), g 12 (by decide), g 13 (by decide), g 14 (by decide), g 55 (by decide), g 56 (by decide), h2, h3 0 (by decide), h3 (0 + 1) (by decide), h3 (0 + 2) (by decide), h3 (0 + 3) (by decide)]
  exact I
/-- the land's moves and dues, as both sides have them -/
noncomputable def mv_ (M : am_M) (b m d : Int) : Int := rud (M 11 0) (M 12) b m d
noncomputable def af_ (M : am_M) (b d x y : Int) : Int := aft (M 11 0) (M 12) b d x y
noncomputable def du_ (M : am_M) (c i b : Int) : Int := due (M 12) (M 13) c i b (if c = 0 then M 14 2 else M 14 3)
theorem Ic.qrud {M : am_M} (I : Ic M) (b m d : Int) : rud (M 53 1) (M 55) b m d = mv_ M b m d := by rw [I.es]; exact rud_c (fun i h => I.kd h) b m d
theorem Ic.qaft {M : am_M} (I : Ic M) (b d x y : Int) : aft (M 53 1) (M 55) b d x y = af_ M b d x y := by rw [I.es]; exact aft_c (fun i h => I.kd h) b d x y
theorem kc_rud {M : am_M} (I : Ic M) {b m d : Int} (hb : 0 ≤ b ∧ b ≤ M 11 0) (hm : -1 ≤ m ∧ m ≤ 1) (hd : 0 ≤ d ∧ d < 1000) : X_X2_rudeness_11 b m d M = some (mv_ M b m d, M) := sp_rudeness_11 I.g11 hb hm hd
theorem kc_aft {M : am_M} (I : Ic M) {b d x y : Int} (hb : 0 ≤ b ∧ b ≤ M 11 0) (hd : 0 ≤ d ∧ d < 1000) (hx : 0 ≤ x ∧ x ≤ 3) (hy : 0 ≤ y ∧ y ≤ 3) : X_X2_borderAfter_11 b d x y M = some (af_ M b d x y, M) := sp_borderAfter_11 I.g11 hb hd hx hy
theorem km_aft {M : am_M} (I : Ic M) {b d x y : Int} (hb : 0 ≤ b ∧ b ≤ M 11 0) (hd : 0 ≤ d ∧ d < 1000) (hx : 0 ≤ x ∧ x ≤ 3) (hy : 0 ≤ y ∧ y ≤ 3) : X_X9_behind_53 b d x y M = some (af_ M b d x y, M) := by
  rw [sp_behind I.gM (by rw [I.es]; exact hb) hd hx hy, I.qaft]
theorem mv_r (M : am_M) (b m d : Int) : -1 ≤ mv_ M b m d ∧ mv_ M b m d ≤ 2 := rud_r _ _ _ _ _
theorem mv_0 (M : am_M) (b d : Int) : mv_ M b 0 d = 0 := rfl
theorem mv_in {M : am_M} {b m d : Int} (hm : m = -1 ∨ m = 0 ∨ m = 1) (hb : 0 ≤ b ∧ b ≤ M 11 0) (h : mv_ M b m d ≠ -1) : 0 ≤ b + m ∧ b + m ≤ M 11 0 := by
  unfold mv_ rud at h
  rcases hm with rfl | rfl | rfl
  · rw [if_neg (by decide)] at h
    split at h
    · exact absurd rfl h
    · rename_i q; unfold crs at q; rw [if_pos (by decide)] at q; omega
  · omega
  · rw [if_neg (by decide)] at h
    split at h
    · exact absurd rfl h
    · rename_i q; unfold crs at q; rw [if_neg (by decide)] at q; omega
theorem af_r {M : am_M} {b d x y : Int} (hb : 0 ≤ b ∧ b ≤ M 11 0) : 0 ≤ af_ M b d x y ∧ af_ M b d x y ≤ M 11 0 := aft_r hb
theorem kdu_r {M : am_M} (I : Ic M) (c i b : Int) : 0 ≤ du_ M c i b ∧ du_ M c i b ≤ 162 := by
  unfold du_
  refine due_r I.g11.2.2.2 ?_
  split
  · exact I.r2
  · exact I.r3
theorem kc_due0 {M : am_M} (I : Ic M) {i b : Int} (hi : 0 ≤ i ∧ i < M 11 0) (hb : 0 ≤ b ∧ b ≤ 12) : X_X2_dueTo_11 0 i b (M 14 2) M = some (du_ M 0 i b, M) := sp_dueTo_11 I.g11 (by decide) hi hb I.r2
theorem kc_due1 {M : am_M} (I : Ic M) {i b : Int} (hi : 0 ≤ i ∧ i < M 11 0) (hb : 0 ≤ b ∧ b ≤ 12) : X_X2_dueTo_11 1 i b (M 14 3) M = some (du_ M 1 i b, M) := sp_dueTo_11 I.g11 (by decide) hi hb I.r3
theorem km_due0 {M : am_M} (I : Ic M) {i b : Int} (hi : 0 ≤ i ∧ i < M 11 0) (hb : 0 ≤ b ∧ b ≤ 12) : X_X9_paysTo_53 i 0 b (M 54 2) M = some (du_ M 0 i b, M) := by
  have h := I.rs
  rw [I.d2, sp_paysTo I.gM (by decide) (by omega) hb I.r2, due_c (I.kd (by omega)) (I.du (by omega))]
  rfl
theorem km_due1 {M : am_M} (I : Ic M) {i b : Int} (hi : 0 ≤ i ∧ i < M 11 0) (hb : 0 ≤ b ∧ b ≤ 12) : X_X9_paysTo_53 i 1 b (M 54 3) M = some (du_ M 1 i b, M) := by
  have h := I.rs
  rw [I.d3, sp_paysTo I.gM (by decide) (by omega) hb I.r3, due_c (I.kd (by omega)) (I.du (by omega))]
  rfl
theorem kc_both {M : am_M} (I : Ic M) {i b : Int} (hi : 0 ≤ i ∧ i < M 11 0) (hb : 0 ≤ b ∧ b ≤ 12) : X_X1_dueOfBoth_14_11 i b M = some (du_ M 0 i b + du_ M 1 i b, M) := by
  rw [X_X1_dueOfBoth_14_11, kc_due0 I hi hb, ob]
  dsimp only
  rw [kc_due1 I hi hb, ob]
theorem km_both {M : am_M} (I : Ic M) {i b : Int} (hi : 0 ≤ i ∧ i < M 11 0) (hb : 0 ≤ b ∧ b ≤ 12) : (X_X9_paysTo_53 i 0 b (M 54 2) M).bind (fun z1 => (X_X9_paysTo_53 i 1 b (z1.2 54 3) z1.2).bind fun z2 => some (z1.1 + z2.1, z2.2)) = some (du_ M 0 i b + du_ M 1 i b, M) := by
  rw [km_due0 I hi hb, ob]
  dsimp only
  rw [km_due1 I hi hb, ob]
theorem mv_nz {M : am_M} {b m d : Int} (hm : m ≠ 0) : mv_ M b m d = -1 ∨ mv_ M b m d = 1 ∨ mv_ M b m d = 2 := by
  unfold mv_ rud
  rw [if_neg hm]
  repeat' split
  all_goals omega
/-- the least rudeness of a move, as the reference tells it -/
noncomputable def mr_ (x : Int) : Int := if x = -1 then -9 else x
theorem mr_sel {M : am_M} {r z1 z2 t : Int} (hr : r = -1 ∨ r = 1 ∨ r = 2) (k1 : z1 = t ↔ (r ≠ -1 ∧ r ≤ 1)) (k2 : z2 = t ↔ (r ≠ -1 ∧ r ≤ 2)) : (if z1 = t then some ((1 : Int), M) else if z2 = t then some (2, M) else some (-9, M)) = some (mr_ r, M) := by
  rcases hr with rfl | rfl | rfl
  · rw [if_neg (fun h => (k1.mp h).1 rfl), if_neg (fun h => (k2.mp h).1 rfl)]; rfl
  · rw [if_pos (k1.mpr (by decide))]; rfl
  · rw [if_neg (fun h => absurd (k1.mp h).2 (by decide)), if_pos (k2.mpr (by decide))]; rfl
theorem km_rud {M : am_M} (I : Ic M) {b m d : Int} (hb : 0 ≤ b ∧ b ≤ M 11 0) (hm : -1 ≤ m ∧ m ≤ 1) (hd : 0 ≤ d ∧ d < 1000) : X_X9_rudeness_53 b d m M = some (mr_ (mv_ M b m d), M) := by
  have hs := I.rs
  have key : ∀ y : Int, 1 ≤ y ∧ y ≤ 2 → ∀ (x1 x2 : Int), cmp_ x2 x1 = m → gap_ x1 x2 = y → m ≠ 0 → (af_ M b d x1 x2 = b + m ↔ (mv_ M b m d ≠ -1 ∧ mv_ M b m d ≤ y)) := by
    intro y hy x1 x2 h1 h2 h3
    unfold af_ mv_ aft
    rw [h1, h2]
    generalize rud (M 11 0) (M 12) b m d = r
    constructor
    · intro q
      split at q
      · exfalso; omega
      · rename_i w; omega
    · intro q
      rw [if_neg (by omega)]
  rcases (show m = -1 ∨ m = 0 ∨ m = 1 by omega) with rfl | rfl | rfl
  · have k1 := key 1 (by decide) 1 0 rfl rfl (by decide)
    have k2 := key 2 (by decide) 2 0 rfl rfl (by decide)
    have a1 := af_r (M := M) (b := b) (d := d) (x := 1) (y := 0) hb
    have a2 := af_r (M := M) (b := b) (d := d) (x := 2) (y := 0) hb
    have hr := mv_nz (M := M) (b := b) (m := -1) (d := d) (by decide)
    generalize mv_ M b (-1) d = r at hr k1 k2 ⊢
    rw [X_X9_rudeness_53, XB_X9_rudeness_53_e, if_neg (by decide), XL_X9_rudeness_53_3, XB_X9_rudeness_53_3, if_pos (by decide), if_pos (by decide), if_pos (by decide), km_aft I hb hd (show (0 : Int) ≤ 1 ∧ (1 : Int) ≤ 3 by decide) (show (0 : Int) ≤ 0 ∧ (0 : Int) ≤ 3 by decide), ob, XL_X9_rudeness_53_3, XB_X9_rudeness_53_3, if_pos (show wI (1 + 1) < 3 by decide), if_pos (show wI (-1) < 0 by decide), if_pos (show wI (-1) < 0 by decide), show (1 : Int) + 1 = 2 from rfl, km_aft I hb hd (show (0 : Int) ≤ 2 ∧ (2 : Int) ≤ 3 by decide) (show (0 : Int) ≤ 0 ∧ (0 : Int) ≤ 3 by decide), ob, XL_X9_rudeness_53_3, XB_X9_rudeness_53_3, if_neg (show ¬ wI (2 + 1) < 3 by decide), XB_X9_rudeness_53_13]
    dsimp only
    generalize af_ M b d 1 0 = z1 at k1 a1 ⊢
    generalize af_ M b d 2 0 = z2 at k2 a2 ⊢
    rw [wI_of (x := z1) (by omega) (by omega), wI_of (x := z2) (by omega) (by omega), wI_of (x := b + -1) (by omega) (by omega)]
    exact mr_sel hr k1 k2
  · rw [mv_0]
    simp only [X_X9_rudeness_53, XB_X9_rudeness_53_e, wI_0, if_true]
    rfl
  · have k1 := key 1 (by decide) 0 1 rfl rfl (by decide)
    have k2 := key 2 (by decide) 0 2 rfl rfl (by decide)
    have a1 := af_r (M := M) (b := b) (d := d) (x := 0) (y := 1) hb
    have a2 := af_r (M := M) (b := b) (d := d) (x := 0) (y := 2) hb
    have hr := mv_nz (M := M) (b := b) (m := 1) (d := d) (by decide)
    generalize mv_ M b 1 d = r at hr k1 k2 ⊢
    rw [X_X9_rudeness_53, XB_X9_rudeness_53_e, if_neg (by decide), XL_X9_rudeness_53_3, XB_X9_rudeness_53_3, if_pos (by decide), if_neg (by decide), if_neg (by decide), km_aft I hb hd (show (0 : Int) ≤ 0 ∧ (0 : Int) ≤ 3 by decide) (show (0 : Int) ≤ 1 ∧ (1 : Int) ≤ 3 by decide), ob, XL_X9_rudeness_53_3, XB_X9_rudeness_53_3, if_pos (show wI (1 + 1) < 3 by decide), if_neg (show ¬ wI 1 < 0 by decide), if_neg (show ¬ wI 1 < 0 by decide), show (1 : Int) + 1 = 2 from rfl, km_aft I hb hd (show (0 : Int) ≤ 0 ∧ (0 : Int) ≤ 3 by decide) (show (0 : Int) ≤ 2 ∧ (2 : Int) ≤ 3 by decide), ob, XL_X9_rudeness_53_3, XB_X9_rudeness_53_3, if_neg (show ¬ wI (2 + 1) < 3 by decide), XB_X9_rudeness_53_13]
    dsimp only
    generalize af_ M b d 0 1 = z1 at k1 a1 ⊢
    generalize af_ M b d 0 2 = z2 at k2 a2 ⊢
    rw [wI_of (x := z1) (by omega) (by omega), wI_of (x := z2) (by omega) (by omega), wI_of (x := b + 1) (by omega) (by omega)]
    exact mr_sel hr k1 k2
theorem km_can {M : am_M} (I : Ic M) {b m d : Int} (hb : 0 ≤ b ∧ b ≤ M 11 0) (hm : -1 ≤ m ∧ m ≤ 1) (hd : 0 ≤ d ∧ d < 1000) : X_X9_canBe_53 b d m M = some (b2 (mv_ M b m d ≠ -1), M) := by
  have hr := mv_r M b m d
  rw [X_X9_canBe_53, km_rud I hb hm hd, ob]
  dsimp only
  generalize mv_ M b m d = r at hr ⊢
  unfold mr_ b2
  by_cases c : r = -1
  · subst c; rfl
  · rw [if_neg c, wI_of (by omega) (by omega), if_neg (by omega), if_pos c]
theorem c_rud {M : am_M} (I : Ib M) {b m d : Int} (hb : 0 ≤ b ∧ b ≤ M 11 0) (hm : -1 ≤ m ∧ m ≤ 1) (hd : 0 ≤ d ∧ d < 1000) : X_X2_rudeness_11 b m d M = some (mv_ M b m d, M) := kc_rud I.c hb hm hd
theorem c_aft {M : am_M} (I : Ib M) {b d x y : Int} (hb : 0 ≤ b ∧ b ≤ M 11 0) (hd : 0 ≤ d ∧ d < 1000) (hx : 0 ≤ x ∧ x ≤ 3) (hy : 0 ≤ y ∧ y ≤ 3) : X_X2_borderAfter_11 b d x y M = some (af_ M b d x y, M) := kc_aft I.c hb hd hx hy
theorem m_aft {M : am_M} (I : Ib M) {b d x y : Int} (hb : 0 ≤ b ∧ b ≤ M 11 0) (hd : 0 ≤ d ∧ d < 1000) (hx : 0 ≤ x ∧ x ≤ 3) (hy : 0 ≤ y ∧ y ≤ 3) : X_X9_behind_53 b d x y M = some (af_ M b d x y, M) := km_aft I.c hb hd hx hy
theorem du_r {M : am_M} (I : Ib M) (c i b : Int) : 0 ≤ du_ M c i b ∧ du_ M c i b ≤ 162 := kdu_r I.c c i b
theorem c_due0 {M : am_M} (I : Ib M) {i b : Int} (hi : 0 ≤ i ∧ i < M 11 0) (hb : 0 ≤ b ∧ b ≤ 12) : X_X2_dueTo_11 0 i b (M 14 2) M = some (du_ M 0 i b, M) := kc_due0 I.c hi hb
theorem c_due1 {M : am_M} (I : Ib M) {i b : Int} (hi : 0 ≤ i ∧ i < M 11 0) (hb : 0 ≤ b ∧ b ≤ 12) : X_X2_dueTo_11 1 i b (M 14 3) M = some (du_ M 1 i b, M) := kc_due1 I.c hi hb
theorem m_due0 {M : am_M} (I : Ib M) {i b : Int} (hi : 0 ≤ i ∧ i < M 11 0) (hb : 0 ≤ b ∧ b ≤ 12) : X_X9_paysTo_53 i 0 b (M 54 2) M = some (du_ M 0 i b, M) := km_due0 I.c hi hb
theorem m_due1 {M : am_M} (I : Ib M) {i b : Int} (hi : 0 ≤ i ∧ i < M 11 0) (hb : 0 ≤ b ∧ b ≤ 12) : X_X9_paysTo_53 i 1 b (M 54 3) M = some (du_ M 1 i b, M) := km_due1 I.c hi hb
theorem c_both {M : am_M} (I : Ib M) {i b : Int} (hi : 0 ≤ i ∧ i < M 11 0) (hb : 0 ≤ b ∧ b ≤ 12) : X_X1_dueOfBoth_14_11 i b M = some (du_ M 0 i b + du_ M 1 i b, M) := kc_both I.c hi hb
theorem m_both {M : am_M} (I : Ib M) {i b : Int} (hi : 0 ≤ i ∧ i < M 11 0) (hb : 0 ≤ b ∧ b ≤ 12) : (X_X9_paysTo_53 i 0 b (M 54 2) M).bind (fun z1 => (X_X9_paysTo_53 i 1 b (z1.2 54 3) z1.2).bind fun z2 => some (z1.1 + z2.1, z2.2)) = some (du_ M 0 i b + du_ M 1 i b, M) := km_both I.c hi hb
theorem m_rud {M : am_M} (I : Ib M) {b m d : Int} (hb : 0 ≤ b ∧ b ≤ M 11 0) (hm : -1 ≤ m ∧ m ≤ 1) (hd : 0 ≤ d ∧ d < 1000) : X_X9_rudeness_53 b d m M = some (mr_ (mv_ M b m d), M) := km_rud I.c hb hm hd
theorem m_can {M : am_M} (I : Ib M) {b m d : Int} (hb : 0 ≤ b ∧ b ≤ M 11 0) (hm : -1 ≤ m ∧ m ≤ 1) (hd : 0 ≤ d ∧ d < 1000) : X_X9_canBe_53 b d m M = some (b2 (mv_ M b m d ≠ -1), M) := km_can I.c hb hm hd
