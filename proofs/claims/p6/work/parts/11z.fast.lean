/-! A quicker check of a table: the code's bytes are gone along once. -/
noncomputable abbrev am_Dc : Type → Type := Jvm.ClassFile.Decoder
noncomputable def am_by (c : ByteArray) (p : Nat) : List UInt8 := c.data.toList.drop p
theorem am_by_s (c : ByteArray) (p n : Nat) : am_by c (p + n) = (am_by c p).drop n := by
  unfold am_by
  first | rw [List.drop_drop] | rw [List.drop_drop, Nat.add_comm]
theorem am_by_c {c : ByteArray} {p : Nat} {b : UInt8} {r : List UInt8} (h : am_by c p = b :: r) : am_by c (p + 1) = r := by
  rw [am_by_s, h]; rfl
theorem am_u1 {c : ByteArray} {p : Nat} {b : UInt8} {r : List UInt8} (h : am_by c p = b :: r) : (Jvm.ClassFile.Reader.u1 : am_Dc Nat) c p = .ok (b.toNat, p + 1) := by
  have h0 : c.data.toList[p]? = some b := by
    have := congrArg List.head? h
    unfold am_by at this
    rw [List.head?_drop] at this
    exact this
  have h2 : c.data[p]? = some b := by rw [← Array.getElem?_toList]; exact h0
  obtain ⟨h3, h4⟩ := Array.getElem?_eq_some_iff.mp h2
  have hp : p < c.size := h3
  have hb : c[p]'hp = b := h4
  show (dite (p < c.size) (fun h => (do set (p + 1); pure (c[p]'h).toNat : am_Dc Nat)) (fun _ => throw (Jvm.ClassFile.HasTruncated.truncated p))) c p = _
  rw [dif_pos hp]
  show Except.ok ((c[p]'hp).toNat, p + 1) = _
  rw [hb]
theorem am_bd {α β : Type} {r : am_Dc α} {G : α → am_Dc β} {c : ByteArray} {p q : Nat} {a : α} (h : r c p = .ok (a, q)) : (r >>= G) c p = G a c q := by
  show Except.bind (r c p) (fun x => match x with | (a, s) => G a c s) = _
  rw [h]; rfl
theorem am_dc {c : ByteArray} {p l : Nat} {i : Instr} (h : (Jvm.ClassFile.Decoder.instr p) c p = .ok (i, p + l)) : decode c p = .ok (i, l) := by
  have e : (Jvm.ClassFile.Decoder.instr p).runAt c p = .ok (i, p + l) := h
  unfold decode
  rw [e]
  show Except.ok (i, p + l - p) = _
  rw [Nat.add_sub_cancel_left]
theorem am_u2 {c : ByteArray} {p : Nat} {b d : UInt8} {r : List UInt8} (h : am_by c p = b :: d :: r) : (Jvm.ClassFile.Reader.u2 : am_Dc Nat) c p = .ok (b.toNat * 256 + d.toNat, p + 2) :=
  (am_bd (am_u1 h)).trans (am_bd (am_u1 (am_by_c h)))
theorem am_s1 {c : ByteArray} {p : Nat} {b : UInt8} {r : List UInt8} (h : am_by c p = b :: r) : (Jvm.ClassFile.Reader.s1 : am_Dc Int) c p = .ok (Jvm.ClassFile.Reader.signed 8 b.toNat, p + 1) := by
  show Except.map (fun x => (Jvm.ClassFile.Reader.signed 8 x.1, x.2)) ((Jvm.ClassFile.Reader.u1 : am_Dc Nat) c p) = _
  rw [am_u1 h]; rfl
theorem am_s2 {c : ByteArray} {p : Nat} {b d : UInt8} {r : List UInt8} (h : am_by c p = b :: d :: r) : (Jvm.ClassFile.Reader.s2 : am_Dc Int) c p = .ok (Jvm.ClassFile.Reader.signed 16 (b.toNat * 256 + d.toNat), p + 2) := by
  show Except.map (fun x => (Jvm.ClassFile.Reader.signed 16 x.1, x.2)) ((Jvm.ClassFile.Reader.u2 : am_Dc Nat) c p) = _
  rw [am_u2 h]; rfl
noncomputable def am_f0 (n len : Nat) : List UInt8 → Bool
  | b :: _ => decide (b.toNat = n) && decide (len = 1)
  | _ => false
noncomputable def am_f1 (n v len : Nat) : List UInt8 → Bool
  | b :: d :: _ => decide (b.toNat = n) && decide (d.toNat = v) && decide (len = 2)
  | _ => false
noncomputable def am_f2 (n v len : Nat) : List UInt8 → Bool
  | b :: d :: e :: _ => decide (b.toNat = n) && decide (d.toNat * 256 + e.toNat = v) && decide (len = 3)
  | _ => false
noncomputable def am_g1 (n : Nat) (v : Int) (len : Nat) : List UInt8 → Bool
  | b :: d :: _ => decide (b.toNat = n) && decide (Jvm.ClassFile.Reader.signed 8 d.toNat = v) && decide (len = 2)
  | _ => false
noncomputable def am_g2 (n : Nat) (v : Int) (len : Nat) : List UInt8 → Bool
  | b :: d :: e :: _ => decide (b.toNat = n) && decide (Jvm.ClassFile.Reader.signed 16 (d.toNat * 256 + e.toNat) = v) && decide (len = 3)
  | _ => false
noncomputable def am_g3 (n v : Nat) (z : Int) (len : Nat) : List UInt8 → Bool
  | b :: d :: e :: _ => decide (b.toNat = n) && decide (d.toNat = v) && decide (Jvm.ClassFile.Reader.signed 8 e.toNat = z) && decide (len = 3)
  | _ => false
theorem am_f0_e {c : ByteArray} {p n len : Nat} (h : am_f0 n len (am_by c p) = true) : (Jvm.ClassFile.Reader.u1 : am_Dc Nat) c p = .ok (n, p + 1) ∧ len = 1 := by
  unfold am_f0 at h
  split at h
  · rename_i b r hl
    simp only [Bool.and_eq_true, decide_eq_true_eq] at h
    exact ⟨h.1 ▸ am_u1 hl, h.2⟩
  · cases h
theorem am_f1_e {c : ByteArray} {p n v len : Nat} (h : am_f1 n v len (am_by c p) = true) : (Jvm.ClassFile.Reader.u1 : am_Dc Nat) c p = .ok (n, p + 1) ∧ (Jvm.ClassFile.Reader.u1 : am_Dc Nat) c (p + 1) = .ok (v, p + 2) ∧ len = 2 := by
  unfold am_f1 at h
  split at h
  · rename_i b d r hl
    simp only [Bool.and_eq_true, decide_eq_true_eq] at h
    exact ⟨h.1.1 ▸ am_u1 hl, h.1.2 ▸ am_u1 (am_by_c hl), h.2⟩
  · cases h
theorem am_f2_e {c : ByteArray} {p n v len : Nat} (h : am_f2 n v len (am_by c p) = true) : (Jvm.ClassFile.Reader.u1 : am_Dc Nat) c p = .ok (n, p + 1) ∧ (Jvm.ClassFile.Reader.u2 : am_Dc Nat) c (p + 1) = .ok (v, p + 3) ∧ len = 3 := by
  unfold am_f2 at h
  split at h
  · rename_i b d e r hl
    simp only [Bool.and_eq_true, decide_eq_true_eq] at h
    exact ⟨h.1.1 ▸ am_u1 hl, h.1.2 ▸ am_u2 (am_by_c hl), h.2⟩
  · cases h
theorem am_g1_e {c : ByteArray} {p n len : Nat} {v : Int} (h : am_g1 n v len (am_by c p) = true) : (Jvm.ClassFile.Reader.u1 : am_Dc Nat) c p = .ok (n, p + 1) ∧ (Jvm.ClassFile.Reader.s1 : am_Dc Int) c (p + 1) = .ok (v, p + 2) ∧ len = 2 := by
  unfold am_g1 at h
  split at h
  · rename_i b d r hl
    simp only [Bool.and_eq_true, decide_eq_true_eq] at h
    exact ⟨h.1.1 ▸ am_u1 hl, h.1.2 ▸ am_s1 (am_by_c hl), h.2⟩
  · cases h
theorem am_g2_e {c : ByteArray} {p n len : Nat} {v : Int} (h : am_g2 n v len (am_by c p) = true) : (Jvm.ClassFile.Reader.u1 : am_Dc Nat) c p = .ok (n, p + 1) ∧ (Jvm.ClassFile.Reader.s2 : am_Dc Int) c (p + 1) = .ok (v, p + 3) ∧ len = 3 := by
  unfold am_g2 at h
  split at h
  · rename_i b d e r hl
    simp only [Bool.and_eq_true, decide_eq_true_eq] at h
    exact ⟨h.1.1 ▸ am_u1 hl, h.1.2 ▸ am_s2 (am_by_c hl), h.2⟩
  · cases h
theorem am_g3_e {c : ByteArray} {p n v len : Nat} {z : Int} (h : am_g3 n v z len (am_by c p) = true) : (Jvm.ClassFile.Reader.u1 : am_Dc Nat) c p = .ok (n, p + 1) ∧ (Jvm.ClassFile.Reader.u1 : am_Dc Nat) c (p + 1) = .ok (v, p + 2) ∧ (Jvm.ClassFile.Reader.s1 : am_Dc Int) c (p + 2) = .ok (z, p + 3) ∧ len = 3 := by
  unfold am_g3 at h
  split at h
  · rename_i b d e r hl
    simp only [Bool.and_eq_true, decide_eq_true_eq] at h
    exact ⟨h.1.1.1 ▸ am_u1 hl, h.1.1.2 ▸ am_u1 (am_by_c hl), h.1.2 ▸ am_s1 (am_by_c (am_by_c hl)), h.2⟩
  · cases h
noncomputable def am_cx (c : Jvm.ClassFile.Cond) : Nat := match c with
  | .eq => 0
  | .ne => 1
  | .lt => 2
  | .ge => 3
  | .gt => 4
  | .le => 5
/-- do the bytes at hand spell this instruction, in that many? (false: not known) -/
noncomputable def am_dk (i : Instr) (len : Nat) (l : List UInt8) : Bool := match i with
  | .iaload => am_f0 46 len l
  | .laload => am_f0 47 len l
  | .aaload => am_f0 50 len l
  | .iastore => am_f0 79 len l
  | .lastore => am_f0 80 len l
  | .aastore => am_f0 83 len l
  | .pop => am_f0 87 len l
  | .pop2 => am_f0 88 len l
  | .dup => am_f0 89 len l
  | .dup2 => am_f0 92 len l
  | .iadd => am_f0 96 len l
  | .ladd => am_f0 97 len l
  | .isub => am_f0 100 len l
  | .imul => am_f0 104 len l
  | .lmul => am_f0 105 len l
  | .idiv => am_f0 108 len l
  | .ldiv => am_f0 109 len l
  | .irem => am_f0 112 len l
  | .lrem => am_f0 113 len l
  | .ineg => am_f0 116 len l
  | .ishl => am_f0 120 len l
  | .lshl => am_f0 121 len l
  | .ishr => am_f0 122 len l
  | .iand => am_f0 126 len l
  | .ior => am_f0 128 len l
  | .i2l => am_f0 133 len l
  | .l2i => am_f0 136 len l
  | .i2b => am_f0 145 len l
  | .lcmp => am_f0 148 len l
  | .ireturn => am_f0 172 len l
  | .lreturn => am_f0 173 len l
  | .return_ => am_f0 177 len l
  | .arraylength => am_f0 190 len l
  | .iload_n n => am_f0 (26 + n.val) len l
  | .lload_n n => am_f0 (30 + n.val) len l
  | .aload_n n => am_f0 (42 + n.val) len l
  | .istore_n n => am_f0 (59 + n.val) len l
  | .lstore_n n => am_f0 (63 + n.val) len l
  | .astore_n n => am_f0 (75 + n.val) len l
  | .lconst n => am_f0 (9 + n.val) len l
  | .iconst n => decide (-1 ≤ n ∧ n ≤ 5) && am_f0 (n + 3).toNat len l
  | .ldc v => am_f1 18 v len l
  | .iload v => am_f1 21 v len l
  | .lload v => am_f1 22 v len l
  | .aload v => am_f1 25 v len l
  | .istore v => am_f1 54 v len l
  | .lstore v => am_f1 55 v len l
  | .astore v => am_f1 58 v len l
  | .ldc_w v => am_f2 19 v len l
  | .ldc2_w v => am_f2 20 v len l
  | .getfield v => am_f2 180 v len l
  | .putfield v => am_f2 181 v len l
  | .invokevirtual v => am_f2 182 v len l
  | .invokespecial v => am_f2 183 v len l
  | .invokestatic v => am_f2 184 v len l
  | .new v => am_f2 187 v len l
  | .anewarray v => am_f2 189 v len l
  | .bipush v => am_g1 16 v len l
  | .sipush v => am_g2 17 v len l
  | .goto v => am_g2 167 v len l
  | .ifnull v => am_g2 198 v len l
  | .ifnonnull v => am_g2 199 v len l
  | .ifCond c v => am_g2 (153 + am_cx c) v len l
  | .if_icmp c v => am_g2 (159 + am_cx c) v len l
  | .iinc v z => am_g3 132 v z len l
  | .newarray .int => am_f1 188 10 len l
  | .newarray .long => am_f1 188 11 len l
  | _ => false
theorem ad_iaload {c : ByteArray} {p : Nat} (h : (Jvm.ClassFile.Reader.u1 : am_Dc Nat) c p = .ok (46, p + 1)) : decode c p = .ok (.iaload, 1) := am_dc (am_bd h)
theorem ad_laload {c : ByteArray} {p : Nat} (h : (Jvm.ClassFile.Reader.u1 : am_Dc Nat) c p = .ok (47, p + 1)) : decode c p = .ok (.laload, 1) := am_dc (am_bd h)
theorem ad_aaload {c : ByteArray} {p : Nat} (h : (Jvm.ClassFile.Reader.u1 : am_Dc Nat) c p = .ok (50, p + 1)) : decode c p = .ok (.aaload, 1) := am_dc (am_bd h)
theorem ad_iastore {c : ByteArray} {p : Nat} (h : (Jvm.ClassFile.Reader.u1 : am_Dc Nat) c p = .ok (79, p + 1)) : decode c p = .ok (.iastore, 1) := am_dc (am_bd h)
theorem ad_lastore {c : ByteArray} {p : Nat} (h : (Jvm.ClassFile.Reader.u1 : am_Dc Nat) c p = .ok (80, p + 1)) : decode c p = .ok (.lastore, 1) := am_dc (am_bd h)
theorem ad_aastore {c : ByteArray} {p : Nat} (h : (Jvm.ClassFile.Reader.u1 : am_Dc Nat) c p = .ok (83, p + 1)) : decode c p = .ok (.aastore, 1) := am_dc (am_bd h)
theorem ad_pop {c : ByteArray} {p : Nat} (h : (Jvm.ClassFile.Reader.u1 : am_Dc Nat) c p = .ok (87, p + 1)) : decode c p = .ok (.pop, 1) := am_dc (am_bd h)
theorem ad_pop2 {c : ByteArray} {p : Nat} (h : (Jvm.ClassFile.Reader.u1 : am_Dc Nat) c p = .ok (88, p + 1)) : decode c p = .ok (.pop2, 1) := am_dc (am_bd h)
theorem ad_dup {c : ByteArray} {p : Nat} (h : (Jvm.ClassFile.Reader.u1 : am_Dc Nat) c p = .ok (89, p + 1)) : decode c p = .ok (.dup, 1) := am_dc (am_bd h)
theorem ad_dup2 {c : ByteArray} {p : Nat} (h : (Jvm.ClassFile.Reader.u1 : am_Dc Nat) c p = .ok (92, p + 1)) : decode c p = .ok (.dup2, 1) := am_dc (am_bd h)
theorem ad_iadd {c : ByteArray} {p : Nat} (h : (Jvm.ClassFile.Reader.u1 : am_Dc Nat) c p = .ok (96, p + 1)) : decode c p = .ok (.iadd, 1) := am_dc (am_bd h)
theorem ad_ladd {c : ByteArray} {p : Nat} (h : (Jvm.ClassFile.Reader.u1 : am_Dc Nat) c p = .ok (97, p + 1)) : decode c p = .ok (.ladd, 1) := am_dc (am_bd h)
theorem ad_isub {c : ByteArray} {p : Nat} (h : (Jvm.ClassFile.Reader.u1 : am_Dc Nat) c p = .ok (100, p + 1)) : decode c p = .ok (.isub, 1) := am_dc (am_bd h)
theorem ad_imul {c : ByteArray} {p : Nat} (h : (Jvm.ClassFile.Reader.u1 : am_Dc Nat) c p = .ok (104, p + 1)) : decode c p = .ok (.imul, 1) := am_dc (am_bd h)
theorem ad_lmul {c : ByteArray} {p : Nat} (h : (Jvm.ClassFile.Reader.u1 : am_Dc Nat) c p = .ok (105, p + 1)) : decode c p = .ok (.lmul, 1) := am_dc (am_bd h)
theorem ad_idiv {c : ByteArray} {p : Nat} (h : (Jvm.ClassFile.Reader.u1 : am_Dc Nat) c p = .ok (108, p + 1)) : decode c p = .ok (.idiv, 1) := am_dc (am_bd h)
theorem ad_ldiv {c : ByteArray} {p : Nat} (h : (Jvm.ClassFile.Reader.u1 : am_Dc Nat) c p = .ok (109, p + 1)) : decode c p = .ok (.ldiv, 1) := am_dc (am_bd h)
theorem ad_irem {c : ByteArray} {p : Nat} (h : (Jvm.ClassFile.Reader.u1 : am_Dc Nat) c p = .ok (112, p + 1)) : decode c p = .ok (.irem, 1) := am_dc (am_bd h)
theorem ad_lrem {c : ByteArray} {p : Nat} (h : (Jvm.ClassFile.Reader.u1 : am_Dc Nat) c p = .ok (113, p + 1)) : decode c p = .ok (.lrem, 1) := am_dc (am_bd h)
theorem ad_ineg {c : ByteArray} {p : Nat} (h : (Jvm.ClassFile.Reader.u1 : am_Dc Nat) c p = .ok (116, p + 1)) : decode c p = .ok (.ineg, 1) := am_dc (am_bd h)
theorem ad_ishl {c : ByteArray} {p : Nat} (h : (Jvm.ClassFile.Reader.u1 : am_Dc Nat) c p = .ok (120, p + 1)) : decode c p = .ok (.ishl, 1) := am_dc (am_bd h)
theorem ad_lshl {c : ByteArray} {p : Nat} (h : (Jvm.ClassFile.Reader.u1 : am_Dc Nat) c p = .ok (121, p + 1)) : decode c p = .ok (.lshl, 1) := am_dc (am_bd h)
theorem ad_ishr {c : ByteArray} {p : Nat} (h : (Jvm.ClassFile.Reader.u1 : am_Dc Nat) c p = .ok (122, p + 1)) : decode c p = .ok (.ishr, 1) := am_dc (am_bd h)
theorem ad_iand {c : ByteArray} {p : Nat} (h : (Jvm.ClassFile.Reader.u1 : am_Dc Nat) c p = .ok (126, p + 1)) : decode c p = .ok (.iand, 1) := am_dc (am_bd h)
theorem ad_ior {c : ByteArray} {p : Nat} (h : (Jvm.ClassFile.Reader.u1 : am_Dc Nat) c p = .ok (128, p + 1)) : decode c p = .ok (.ior, 1) := am_dc (am_bd h)
theorem ad_i2l {c : ByteArray} {p : Nat} (h : (Jvm.ClassFile.Reader.u1 : am_Dc Nat) c p = .ok (133, p + 1)) : decode c p = .ok (.i2l, 1) := am_dc (am_bd h)
theorem ad_l2i {c : ByteArray} {p : Nat} (h : (Jvm.ClassFile.Reader.u1 : am_Dc Nat) c p = .ok (136, p + 1)) : decode c p = .ok (.l2i, 1) := am_dc (am_bd h)
theorem ad_i2b {c : ByteArray} {p : Nat} (h : (Jvm.ClassFile.Reader.u1 : am_Dc Nat) c p = .ok (145, p + 1)) : decode c p = .ok (.i2b, 1) := am_dc (am_bd h)
theorem ad_lcmp {c : ByteArray} {p : Nat} (h : (Jvm.ClassFile.Reader.u1 : am_Dc Nat) c p = .ok (148, p + 1)) : decode c p = .ok (.lcmp, 1) := am_dc (am_bd h)
theorem ad_ireturn {c : ByteArray} {p : Nat} (h : (Jvm.ClassFile.Reader.u1 : am_Dc Nat) c p = .ok (172, p + 1)) : decode c p = .ok (.ireturn, 1) := am_dc (am_bd h)
theorem ad_lreturn {c : ByteArray} {p : Nat} (h : (Jvm.ClassFile.Reader.u1 : am_Dc Nat) c p = .ok (173, p + 1)) : decode c p = .ok (.lreturn, 1) := am_dc (am_bd h)
theorem ad_return_ {c : ByteArray} {p : Nat} (h : (Jvm.ClassFile.Reader.u1 : am_Dc Nat) c p = .ok (177, p + 1)) : decode c p = .ok (.return_, 1) := am_dc (am_bd h)
theorem ad_arraylength {c : ByteArray} {p : Nat} (h : (Jvm.ClassFile.Reader.u1 : am_Dc Nat) c p = .ok (190, p + 1)) : decode c p = .ok (.arraylength, 1) := am_dc (am_bd h)
theorem ad_iload_n {c : ByteArray} {p : Nat} : ∀ n : Fin 4, (Jvm.ClassFile.Reader.u1 : am_Dc Nat) c p = .ok (26 + n.val, p + 1) → decode c p = .ok (.iload_n n, 1)
  | 0, h => am_dc (am_bd (show (Jvm.ClassFile.Reader.u1 : am_Dc Nat) c p = .ok (26, p + 1) from h))
  | 1, h => am_dc (am_bd (show (Jvm.ClassFile.Reader.u1 : am_Dc Nat) c p = .ok (27, p + 1) from h))
  | 2, h => am_dc (am_bd (show (Jvm.ClassFile.Reader.u1 : am_Dc Nat) c p = .ok (28, p + 1) from h))
  | 3, h => am_dc (am_bd (show (Jvm.ClassFile.Reader.u1 : am_Dc Nat) c p = .ok (29, p + 1) from h))
theorem ad_lload_n {c : ByteArray} {p : Nat} : ∀ n : Fin 4, (Jvm.ClassFile.Reader.u1 : am_Dc Nat) c p = .ok (30 + n.val, p + 1) → decode c p = .ok (.lload_n n, 1)
  | 0, h => am_dc (am_bd (show (Jvm.ClassFile.Reader.u1 : am_Dc Nat) c p = .ok (30, p + 1) from h))
  | 1, h => am_dc (am_bd (show (Jvm.ClassFile.Reader.u1 : am_Dc Nat) c p = .ok (31, p + 1) from h))
  | 2, h => am_dc (am_bd (show (Jvm.ClassFile.Reader.u1 : am_Dc Nat) c p = .ok (32, p + 1) from h))
  | 3, h => am_dc (am_bd (show (Jvm.ClassFile.Reader.u1 : am_Dc Nat) c p = .ok (33, p + 1) from h))
theorem ad_aload_n {c : ByteArray} {p : Nat} : ∀ n : Fin 4, (Jvm.ClassFile.Reader.u1 : am_Dc Nat) c p = .ok (42 + n.val, p + 1) → decode c p = .ok (.aload_n n, 1)
  | 0, h => am_dc (am_bd (show (Jvm.ClassFile.Reader.u1 : am_Dc Nat) c p = .ok (42, p + 1) from h))
  | 1, h => am_dc (am_bd (show (Jvm.ClassFile.Reader.u1 : am_Dc Nat) c p = .ok (43, p + 1) from h))
  | 2, h => am_dc (am_bd (show (Jvm.ClassFile.Reader.u1 : am_Dc Nat) c p = .ok (44, p + 1) from h))
  | 3, h => am_dc (am_bd (show (Jvm.ClassFile.Reader.u1 : am_Dc Nat) c p = .ok (45, p + 1) from h))
theorem ad_istore_n {c : ByteArray} {p : Nat} : ∀ n : Fin 4, (Jvm.ClassFile.Reader.u1 : am_Dc Nat) c p = .ok (59 + n.val, p + 1) → decode c p = .ok (.istore_n n, 1)
  | 0, h => am_dc (am_bd (show (Jvm.ClassFile.Reader.u1 : am_Dc Nat) c p = .ok (59, p + 1) from h))
  | 1, h => am_dc (am_bd (show (Jvm.ClassFile.Reader.u1 : am_Dc Nat) c p = .ok (60, p + 1) from h))
  | 2, h => am_dc (am_bd (show (Jvm.ClassFile.Reader.u1 : am_Dc Nat) c p = .ok (61, p + 1) from h))
  | 3, h => am_dc (am_bd (show (Jvm.ClassFile.Reader.u1 : am_Dc Nat) c p = .ok (62, p + 1) from h))
theorem ad_lstore_n {c : ByteArray} {p : Nat} : ∀ n : Fin 4, (Jvm.ClassFile.Reader.u1 : am_Dc Nat) c p = .ok (63 + n.val, p + 1) → decode c p = .ok (.lstore_n n, 1)
  | 0, h => am_dc (am_bd (show (Jvm.ClassFile.Reader.u1 : am_Dc Nat) c p = .ok (63, p + 1) from h))
  | 1, h => am_dc (am_bd (show (Jvm.ClassFile.Reader.u1 : am_Dc Nat) c p = .ok (64, p + 1) from h))
  | 2, h => am_dc (am_bd (show (Jvm.ClassFile.Reader.u1 : am_Dc Nat) c p = .ok (65, p + 1) from h))
  | 3, h => am_dc (am_bd (show (Jvm.ClassFile.Reader.u1 : am_Dc Nat) c p = .ok (66, p + 1) from h))
theorem ad_astore_n {c : ByteArray} {p : Nat} : ∀ n : Fin 4, (Jvm.ClassFile.Reader.u1 : am_Dc Nat) c p = .ok (75 + n.val, p + 1) → decode c p = .ok (.astore_n n, 1)
  | 0, h => am_dc (am_bd (show (Jvm.ClassFile.Reader.u1 : am_Dc Nat) c p = .ok (75, p + 1) from h))
  | 1, h => am_dc (am_bd (show (Jvm.ClassFile.Reader.u1 : am_Dc Nat) c p = .ok (76, p + 1) from h))
  | 2, h => am_dc (am_bd (show (Jvm.ClassFile.Reader.u1 : am_Dc Nat) c p = .ok (77, p + 1) from h))
  | 3, h => am_dc (am_bd (show (Jvm.ClassFile.Reader.u1 : am_Dc Nat) c p = .ok (78, p + 1) from h))
theorem ad_lconst {c : ByteArray} {p : Nat} : ∀ n : Fin 2, (Jvm.ClassFile.Reader.u1 : am_Dc Nat) c p = .ok (9 + n.val, p + 1) → decode c p = .ok (.lconst n, 1)
  | 0, h => am_dc (am_bd (show (Jvm.ClassFile.Reader.u1 : am_Dc Nat) c p = .ok (9, p + 1) from h))
  | 1, h => am_dc (am_bd (show (Jvm.ClassFile.Reader.u1 : am_Dc Nat) c p = .ok (10, p + 1) from h))
theorem ad_iconst {c : ByteArray} {p : Nat} {n : Int} (hn : -1 ≤ n ∧ n ≤ 5) (h : (Jvm.ClassFile.Reader.u1 : am_Dc Nat) c p = .ok ((n + 3).toNat, p + 1)) : decode c p = .ok (.iconst n, 1) := by
  have e : n = -1 ∨ n = 0 ∨ n = 1 ∨ n = 2 ∨ n = 3 ∨ n = 4 ∨ n = 5 := by omega
  rcases e with rfl | rfl | rfl | rfl | rfl | rfl | rfl
  · exact am_dc (am_bd (show (Jvm.ClassFile.Reader.u1 : am_Dc Nat) c p = .ok (2, p + 1) from h))
  · exact am_dc (am_bd (show (Jvm.ClassFile.Reader.u1 : am_Dc Nat) c p = .ok (3, p + 1) from h))
  · exact am_dc (am_bd (show (Jvm.ClassFile.Reader.u1 : am_Dc Nat) c p = .ok (4, p + 1) from h))
  · exact am_dc (am_bd (show (Jvm.ClassFile.Reader.u1 : am_Dc Nat) c p = .ok (5, p + 1) from h))
  · exact am_dc (am_bd (show (Jvm.ClassFile.Reader.u1 : am_Dc Nat) c p = .ok (6, p + 1) from h))
  · exact am_dc (am_bd (show (Jvm.ClassFile.Reader.u1 : am_Dc Nat) c p = .ok (7, p + 1) from h))
  · exact am_dc (am_bd (show (Jvm.ClassFile.Reader.u1 : am_Dc Nat) c p = .ok (8, p + 1) from h))
theorem ad_ldc {c : ByteArray} {p v : Nat} (h : (Jvm.ClassFile.Reader.u1 : am_Dc Nat) c p = .ok (18, p + 1)) (g : (Jvm.ClassFile.Reader.u1 : am_Dc Nat) c (p + 1) = .ok (v, p + 2)) : decode c p = .ok (.ldc v, 2) := am_dc ((am_bd h).trans (am_bd g))
theorem ad_iload {c : ByteArray} {p v : Nat} (h : (Jvm.ClassFile.Reader.u1 : am_Dc Nat) c p = .ok (21, p + 1)) (g : (Jvm.ClassFile.Reader.u1 : am_Dc Nat) c (p + 1) = .ok (v, p + 2)) : decode c p = .ok (.iload v, 2) := am_dc ((am_bd h).trans (am_bd g))
theorem ad_lload {c : ByteArray} {p v : Nat} (h : (Jvm.ClassFile.Reader.u1 : am_Dc Nat) c p = .ok (22, p + 1)) (g : (Jvm.ClassFile.Reader.u1 : am_Dc Nat) c (p + 1) = .ok (v, p + 2)) : decode c p = .ok (.lload v, 2) := am_dc ((am_bd h).trans (am_bd g))
theorem ad_aload {c : ByteArray} {p v : Nat} (h : (Jvm.ClassFile.Reader.u1 : am_Dc Nat) c p = .ok (25, p + 1)) (g : (Jvm.ClassFile.Reader.u1 : am_Dc Nat) c (p + 1) = .ok (v, p + 2)) : decode c p = .ok (.aload v, 2) := am_dc ((am_bd h).trans (am_bd g))
theorem ad_istore {c : ByteArray} {p v : Nat} (h : (Jvm.ClassFile.Reader.u1 : am_Dc Nat) c p = .ok (54, p + 1)) (g : (Jvm.ClassFile.Reader.u1 : am_Dc Nat) c (p + 1) = .ok (v, p + 2)) : decode c p = .ok (.istore v, 2) := am_dc ((am_bd h).trans (am_bd g))
theorem ad_lstore {c : ByteArray} {p v : Nat} (h : (Jvm.ClassFile.Reader.u1 : am_Dc Nat) c p = .ok (55, p + 1)) (g : (Jvm.ClassFile.Reader.u1 : am_Dc Nat) c (p + 1) = .ok (v, p + 2)) : decode c p = .ok (.lstore v, 2) := am_dc ((am_bd h).trans (am_bd g))
theorem ad_astore {c : ByteArray} {p v : Nat} (h : (Jvm.ClassFile.Reader.u1 : am_Dc Nat) c p = .ok (58, p + 1)) (g : (Jvm.ClassFile.Reader.u1 : am_Dc Nat) c (p + 1) = .ok (v, p + 2)) : decode c p = .ok (.astore v, 2) := am_dc ((am_bd h).trans (am_bd g))
theorem ad_ldc_w {c : ByteArray} {p v : Nat} (h : (Jvm.ClassFile.Reader.u1 : am_Dc Nat) c p = .ok (19, p + 1)) (g : (Jvm.ClassFile.Reader.u2 : am_Dc Nat) c (p + 1) = .ok (v, p + 3)) : decode c p = .ok (.ldc_w v, 3) := am_dc ((am_bd h).trans (am_bd g))
theorem ad_ldc2_w {c : ByteArray} {p v : Nat} (h : (Jvm.ClassFile.Reader.u1 : am_Dc Nat) c p = .ok (20, p + 1)) (g : (Jvm.ClassFile.Reader.u2 : am_Dc Nat) c (p + 1) = .ok (v, p + 3)) : decode c p = .ok (.ldc2_w v, 3) := am_dc ((am_bd h).trans (am_bd g))
theorem ad_getfield {c : ByteArray} {p v : Nat} (h : (Jvm.ClassFile.Reader.u1 : am_Dc Nat) c p = .ok (180, p + 1)) (g : (Jvm.ClassFile.Reader.u2 : am_Dc Nat) c (p + 1) = .ok (v, p + 3)) : decode c p = .ok (.getfield v, 3) := am_dc ((am_bd h).trans (am_bd g))
theorem ad_putfield {c : ByteArray} {p v : Nat} (h : (Jvm.ClassFile.Reader.u1 : am_Dc Nat) c p = .ok (181, p + 1)) (g : (Jvm.ClassFile.Reader.u2 : am_Dc Nat) c (p + 1) = .ok (v, p + 3)) : decode c p = .ok (.putfield v, 3) := am_dc ((am_bd h).trans (am_bd g))
theorem ad_invokevirtual {c : ByteArray} {p v : Nat} (h : (Jvm.ClassFile.Reader.u1 : am_Dc Nat) c p = .ok (182, p + 1)) (g : (Jvm.ClassFile.Reader.u2 : am_Dc Nat) c (p + 1) = .ok (v, p + 3)) : decode c p = .ok (.invokevirtual v, 3) := am_dc ((am_bd h).trans (am_bd g))
theorem ad_invokespecial {c : ByteArray} {p v : Nat} (h : (Jvm.ClassFile.Reader.u1 : am_Dc Nat) c p = .ok (183, p + 1)) (g : (Jvm.ClassFile.Reader.u2 : am_Dc Nat) c (p + 1) = .ok (v, p + 3)) : decode c p = .ok (.invokespecial v, 3) := am_dc ((am_bd h).trans (am_bd g))
theorem ad_invokestatic {c : ByteArray} {p v : Nat} (h : (Jvm.ClassFile.Reader.u1 : am_Dc Nat) c p = .ok (184, p + 1)) (g : (Jvm.ClassFile.Reader.u2 : am_Dc Nat) c (p + 1) = .ok (v, p + 3)) : decode c p = .ok (.invokestatic v, 3) := am_dc ((am_bd h).trans (am_bd g))
theorem ad_new {c : ByteArray} {p v : Nat} (h : (Jvm.ClassFile.Reader.u1 : am_Dc Nat) c p = .ok (187, p + 1)) (g : (Jvm.ClassFile.Reader.u2 : am_Dc Nat) c (p + 1) = .ok (v, p + 3)) : decode c p = .ok (.new v, 3) := am_dc ((am_bd h).trans (am_bd g))
theorem ad_anewarray {c : ByteArray} {p v : Nat} (h : (Jvm.ClassFile.Reader.u1 : am_Dc Nat) c p = .ok (189, p + 1)) (g : (Jvm.ClassFile.Reader.u2 : am_Dc Nat) c (p + 1) = .ok (v, p + 3)) : decode c p = .ok (.anewarray v, 3) := am_dc ((am_bd h).trans (am_bd g))
theorem ad_bipush {c : ByteArray} {p : Nat} {v : Int} (h : (Jvm.ClassFile.Reader.u1 : am_Dc Nat) c p = .ok (16, p + 1)) (g : (Jvm.ClassFile.Reader.s1 : am_Dc Int) c (p + 1) = .ok (v, p + 2)) : decode c p = .ok (.bipush v, 2) := am_dc ((am_bd h).trans (am_bd g))
theorem ad_sipush {c : ByteArray} {p : Nat} {v : Int} (h : (Jvm.ClassFile.Reader.u1 : am_Dc Nat) c p = .ok (17, p + 1)) (g : (Jvm.ClassFile.Reader.s2 : am_Dc Int) c (p + 1) = .ok (v, p + 3)) : decode c p = .ok (.sipush v, 3) := am_dc ((am_bd h).trans (am_bd g))
theorem ad_goto {c : ByteArray} {p : Nat} {v : Int} (h : (Jvm.ClassFile.Reader.u1 : am_Dc Nat) c p = .ok (167, p + 1)) (g : (Jvm.ClassFile.Reader.s2 : am_Dc Int) c (p + 1) = .ok (v, p + 3)) : decode c p = .ok (.goto v, 3) := am_dc ((am_bd h).trans (am_bd g))
theorem ad_ifnull {c : ByteArray} {p : Nat} {v : Int} (h : (Jvm.ClassFile.Reader.u1 : am_Dc Nat) c p = .ok (198, p + 1)) (g : (Jvm.ClassFile.Reader.s2 : am_Dc Int) c (p + 1) = .ok (v, p + 3)) : decode c p = .ok (.ifnull v, 3) := am_dc ((am_bd h).trans (am_bd g))
theorem ad_ifnonnull {c : ByteArray} {p : Nat} {v : Int} (h : (Jvm.ClassFile.Reader.u1 : am_Dc Nat) c p = .ok (199, p + 1)) (g : (Jvm.ClassFile.Reader.s2 : am_Dc Int) c (p + 1) = .ok (v, p + 3)) : decode c p = .ok (.ifnonnull v, 3) := am_dc ((am_bd h).trans (am_bd g))
theorem ad_ifCond {c : ByteArray} {p : Nat} {v : Int} : ∀ d : Jvm.ClassFile.Cond, (Jvm.ClassFile.Reader.u1 : am_Dc Nat) c p = .ok (153 + am_cx d, p + 1) → (Jvm.ClassFile.Reader.s2 : am_Dc Int) c (p + 1) = .ok (v, p + 3) → decode c p = .ok (.ifCond d v, 3)
  | .eq, h, g => am_dc ((am_bd (show (Jvm.ClassFile.Reader.u1 : am_Dc Nat) c p = .ok (153, p + 1) from h)).trans (am_bd g))
  | .ne, h, g => am_dc ((am_bd (show (Jvm.ClassFile.Reader.u1 : am_Dc Nat) c p = .ok (154, p + 1) from h)).trans (am_bd g))
  | .lt, h, g => am_dc ((am_bd (show (Jvm.ClassFile.Reader.u1 : am_Dc Nat) c p = .ok (155, p + 1) from h)).trans (am_bd g))
  | .ge, h, g => am_dc ((am_bd (show (Jvm.ClassFile.Reader.u1 : am_Dc Nat) c p = .ok (156, p + 1) from h)).trans (am_bd g))
  | .gt, h, g => am_dc ((am_bd (show (Jvm.ClassFile.Reader.u1 : am_Dc Nat) c p = .ok (157, p + 1) from h)).trans (am_bd g))
  | .le, h, g => am_dc ((am_bd (show (Jvm.ClassFile.Reader.u1 : am_Dc Nat) c p = .ok (158, p + 1) from h)).trans (am_bd g))
theorem ad_if_icmp {c : ByteArray} {p : Nat} {v : Int} : ∀ d : Jvm.ClassFile.Cond, (Jvm.ClassFile.Reader.u1 : am_Dc Nat) c p = .ok (159 + am_cx d, p + 1) → (Jvm.ClassFile.Reader.s2 : am_Dc Int) c (p + 1) = .ok (v, p + 3) → decode c p = .ok (.if_icmp d v, 3)
  | .eq, h, g => am_dc ((am_bd (show (Jvm.ClassFile.Reader.u1 : am_Dc Nat) c p = .ok (159, p + 1) from h)).trans (am_bd g))
  | .ne, h, g => am_dc ((am_bd (show (Jvm.ClassFile.Reader.u1 : am_Dc Nat) c p = .ok (160, p + 1) from h)).trans (am_bd g))
  | .lt, h, g => am_dc ((am_bd (show (Jvm.ClassFile.Reader.u1 : am_Dc Nat) c p = .ok (161, p + 1) from h)).trans (am_bd g))
  | .ge, h, g => am_dc ((am_bd (show (Jvm.ClassFile.Reader.u1 : am_Dc Nat) c p = .ok (162, p + 1) from h)).trans (am_bd g))
  | .gt, h, g => am_dc ((am_bd (show (Jvm.ClassFile.Reader.u1 : am_Dc Nat) c p = .ok (163, p + 1) from h)).trans (am_bd g))
  | .le, h, g => am_dc ((am_bd (show (Jvm.ClassFile.Reader.u1 : am_Dc Nat) c p = .ok (164, p + 1) from h)).trans (am_bd g))
theorem ad_iinc {c : ByteArray} {p v : Nat} {z : Int} (h : (Jvm.ClassFile.Reader.u1 : am_Dc Nat) c p = .ok (132, p + 1)) (g : (Jvm.ClassFile.Reader.u1 : am_Dc Nat) c (p + 1) = .ok (v, p + 2)) (k : (Jvm.ClassFile.Reader.s1 : am_Dc Int) c (p + 2) = .ok (z, p + 3)) : decode c p = .ok (.iinc v z, 3) := am_dc ((am_bd h).trans ((am_bd g).trans (am_bd k)))
theorem ad_na_int {c : ByteArray} {p : Nat} (h : (Jvm.ClassFile.Reader.u1 : am_Dc Nat) c p = .ok (188, p + 1)) (g : (Jvm.ClassFile.Reader.u1 : am_Dc Nat) c (p + 1) = .ok (10, p + 2)) : decode c p = .ok (.newarray .int, 2) := am_dc ((am_bd h).trans (am_bd g))
theorem ad_na_long {c : ByteArray} {p : Nat} (h : (Jvm.ClassFile.Reader.u1 : am_Dc Nat) c p = .ok (188, p + 1)) (g : (Jvm.ClassFile.Reader.u1 : am_Dc Nat) c (p + 1) = .ok (11, p + 2)) : decode c p = .ok (.newarray .long, 2) := am_dc ((am_bd h).trans (am_bd g))
theorem am_dk_e {c : ByteArray} {p len : Nat} {i : Instr} (h : am_dk i len (am_by c p) = true) : decode c p = .ok (i, len) := by
  unfold am_dk at h
  split at h
  · obtain ⟨a, rfl⟩ := am_f0_e h; exact ad_iaload a
  · obtain ⟨a, rfl⟩ := am_f0_e h; exact ad_laload a
  · obtain ⟨a, rfl⟩ := am_f0_e h; exact ad_aaload a
  · obtain ⟨a, rfl⟩ := am_f0_e h; exact ad_iastore a
  · obtain ⟨a, rfl⟩ := am_f0_e h; exact ad_lastore a
  · obtain ⟨a, rfl⟩ := am_f0_e h; exact ad_aastore a
  · obtain ⟨a, rfl⟩ := am_f0_e h; exact ad_pop a
  · obtain ⟨a, rfl⟩ := am_f0_e h; exact ad_pop2 a
  · obtain ⟨a, rfl⟩ := am_f0_e h; exact ad_dup a
  · obtain ⟨a, rfl⟩ := am_f0_e h; exact ad_dup2 a
  · obtain ⟨a, rfl⟩ := am_f0_e h; exact ad_iadd a
  · obtain ⟨a, rfl⟩ := am_f0_e h; exact ad_ladd a
  · obtain ⟨a, rfl⟩ := am_f0_e h; exact ad_isub a
  · obtain ⟨a, rfl⟩ := am_f0_e h; exact ad_imul a
  · obtain ⟨a, rfl⟩ := am_f0_e h; exact ad_lmul a
  · obtain ⟨a, rfl⟩ := am_f0_e h; exact ad_idiv a
  · obtain ⟨a, rfl⟩ := am_f0_e h; exact ad_ldiv a
  · obtain ⟨a, rfl⟩ := am_f0_e h; exact ad_irem a
  · obtain ⟨a, rfl⟩ := am_f0_e h; exact ad_lrem a
  · obtain ⟨a, rfl⟩ := am_f0_e h; exact ad_ineg a
  · obtain ⟨a, rfl⟩ := am_f0_e h; exact ad_ishl a
  · obtain ⟨a, rfl⟩ := am_f0_e h; exact ad_lshl a
  · obtain ⟨a, rfl⟩ := am_f0_e h; exact ad_ishr a
  · obtain ⟨a, rfl⟩ := am_f0_e h; exact ad_iand a
  · obtain ⟨a, rfl⟩ := am_f0_e h; exact ad_ior a
  · obtain ⟨a, rfl⟩ := am_f0_e h; exact ad_i2l a
  · obtain ⟨a, rfl⟩ := am_f0_e h; exact ad_l2i a
  · obtain ⟨a, rfl⟩ := am_f0_e h; exact ad_i2b a
  · obtain ⟨a, rfl⟩ := am_f0_e h; exact ad_lcmp a
  · obtain ⟨a, rfl⟩ := am_f0_e h; exact ad_ireturn a
  · obtain ⟨a, rfl⟩ := am_f0_e h; exact ad_lreturn a
  · obtain ⟨a, rfl⟩ := am_f0_e h; exact ad_return_ a
  · obtain ⟨a, rfl⟩ := am_f0_e h; exact ad_arraylength a
  · obtain ⟨a, rfl⟩ := am_f0_e h; exact ad_iload_n _ a
  · obtain ⟨a, rfl⟩ := am_f0_e h; exact ad_lload_n _ a
  · obtain ⟨a, rfl⟩ := am_f0_e h; exact ad_aload_n _ a
  · obtain ⟨a, rfl⟩ := am_f0_e h; exact ad_istore_n _ a
  · obtain ⟨a, rfl⟩ := am_f0_e h; exact ad_lstore_n _ a
  · obtain ⟨a, rfl⟩ := am_f0_e h; exact ad_astore_n _ a
  · obtain ⟨a, rfl⟩ := am_f0_e h; exact ad_lconst _ a
  · simp only [Bool.and_eq_true, decide_eq_true_eq] at h; obtain ⟨a, rfl⟩ := am_f0_e h.2; exact ad_iconst h.1 a
  · obtain ⟨a, b, rfl⟩ := am_f1_e h; exact ad_ldc a b
  · obtain ⟨a, b, rfl⟩ := am_f1_e h; exact ad_iload a b
  · obtain ⟨a, b, rfl⟩ := am_f1_e h; exact ad_lload a b
  · obtain ⟨a, b, rfl⟩ := am_f1_e h; exact ad_aload a b
  · obtain ⟨a, b, rfl⟩ := am_f1_e h; exact ad_istore a b
  · obtain ⟨a, b, rfl⟩ := am_f1_e h; exact ad_lstore a b
  · obtain ⟨a, b, rfl⟩ := am_f1_e h; exact ad_astore a b
  · obtain ⟨a, b, rfl⟩ := am_f2_e h; exact ad_ldc_w a b
  · obtain ⟨a, b, rfl⟩ := am_f2_e h; exact ad_ldc2_w a b
  · obtain ⟨a, b, rfl⟩ := am_f2_e h; exact ad_getfield a b
  · obtain ⟨a, b, rfl⟩ := am_f2_e h; exact ad_putfield a b
  · obtain ⟨a, b, rfl⟩ := am_f2_e h; exact ad_invokevirtual a b
  · obtain ⟨a, b, rfl⟩ := am_f2_e h; exact ad_invokespecial a b
  · obtain ⟨a, b, rfl⟩ := am_f2_e h; exact ad_invokestatic a b
  · obtain ⟨a, b, rfl⟩ := am_f2_e h; exact ad_new a b
  · obtain ⟨a, b, rfl⟩ := am_f2_e h; exact ad_anewarray a b
  · obtain ⟨a, b, rfl⟩ := am_g1_e h; exact ad_bipush a b
  · obtain ⟨a, b, rfl⟩ := am_g2_e h; exact ad_sipush a b
  · obtain ⟨a, b, rfl⟩ := am_g2_e h; exact ad_goto a b
  · obtain ⟨a, b, rfl⟩ := am_g2_e h; exact ad_ifnull a b
  · obtain ⟨a, b, rfl⟩ := am_g2_e h; exact ad_ifnonnull a b
  · obtain ⟨a, b, rfl⟩ := am_g2_e h; exact ad_ifCond _ a b
  · obtain ⟨a, b, rfl⟩ := am_g2_e h; exact ad_if_icmp _ a b
  · obtain ⟨a, b, d, rfl⟩ := am_g3_e h; exact ad_iinc a b d
  · obtain ⟨a, b, rfl⟩ := am_f1_e h; exact ad_na_int a b
  · obtain ⟨a, b, rfl⟩ := am_f1_e h; exact ad_na_long a b
  · cases h
noncomputable def am_ckC (k : Nat) (tp : Nat → Nat) : Nat → List UInt8 → List am_E → List (Nat × List Nat) → Option Nat → Bool
  | pc, _, [], [], some t => decide (tp t = pc)
  | _, _, [], [], none => true
  | pc, l, e :: es, c :: cs, fall => (am_dk e.1 c.1 l || decide (decode (am_cc k) pc = .ok (e.1, c.1))) && am_lnk k tp pc e.1 c.1 e.2 c.2 && am_ckC k tp (pc + c.1) (l.drop c.1) es cs fall
  | _, _, _, _, _ => false
theorem am_ckC_e {k : Nat} {tp : Nat → Nat} {fall : Option Nat} : ∀ (es : List am_E) (cs : List (Nat × List Nat)) (pc : Nat), am_ckC k tp pc (am_by (am_cc k) pc) es cs fall = true → am_ckB k tp pc es cs fall = true
  | [], [], pc, h => by cases fall <;> exact h
  | e :: es, c :: cs, pc, h => by
    simp only [am_ckC, Bool.and_eq_true] at h
    simp only [am_ckB, Bool.and_eq_true, decide_eq_true_eq]
    rw [← am_by_s] at h
    refine ⟨⟨?_, h.1.2⟩, am_ckC_e es cs _ h.2⟩
    rcases Bool.or_eq_true _ _ ▸ h.1.1 with a | a
    · exact am_dk_e a
    · exact of_decide_eq_true a
  | [], _ :: _, pc, h => by cases fall <;> simp [am_ckC] at h
  | _ :: _, [], pc, h => by cases fall <;> simp [am_ckC] at h
noncomputable def am_ckM (k : Nat) (tp : Nat → Nat) : List am_B → List (List (Nat × List Nat)) → Bool
  | [], [] => true
  | b :: bs, c :: cs => am_ckC k tp b.1 (am_by (am_cc k) b.1) b.2.1 c b.2.2 && am_ckM k tp bs cs
  | _, _ => false
theorem am_ckM_e {k : Nat} {tp : Nat → Nat} : ∀ (bs : List am_B) (cs : List (List (Nat × List Nat))), am_ckM k tp bs cs = true → am_ckL k tp bs cs = true
  | [], [], _ => rfl
  | b :: bs, c :: cs, h => by
    simp only [am_ckM, Bool.and_eq_true] at h
    simp only [am_ckL, Bool.and_eq_true]
    exact ⟨am_ckC_e _ _ _ h.1, am_ckM_e bs cs h.2⟩
  | [], _ :: _, h => by simp [am_ckM] at h
  | _ :: _, [], h => by simp [am_ckM] at h
theorem am_ckD {k : Nat} {bs : List am_B} {cs : List (List (Nat × List Nat))} (h : am_ckM k (am_tp bs) bs cs = true) : am_ck k bs cs = true := am_ckM_e bs cs h
