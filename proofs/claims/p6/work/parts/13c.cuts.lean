/-! Cuts: what is live there, read and written. -/
noncomputable def am_rd : List Nat → am_Lv → Option (List Int)
  | [], [] => some []
  | 0 :: ss, _ :: lv => am_rd ss lv
  | 1 :: ss, some (.inl x) :: lv => (match am_rd ss lv with
    | some vs => some (x :: vs)
    | none => none)
  | 2 :: ss, some (.inr (.inl x)) :: lv => (match am_rd ss lv with
    | some vs => some (x :: vs)
    | none => none)
  | (k + 3) :: ss, some (.inr (.inr (some a))) :: lv => if a = k then am_rd ss lv else none
  | _, _ => none
noncomputable def am_wr : List Nat → List Int → am_Lv
  | [], _ => []
  | 0 :: ss, vs => none :: am_wr ss vs
  | 1 :: ss, v :: vs => some (.inl v) :: am_wr ss vs
  | 2 :: ss, v :: vs => some (.inr (.inl v)) :: am_wr ss vs
  | (k + 3) :: ss, vs => some (.inr (.inr (some k))) :: am_wr ss vs
  | _ :: ss, [] => none :: am_wr ss []
theorem am_rd_wr : ∀ (ss : List Nat) (lv : am_Lv) (vs : List Int), am_rd ss lv = some vs → (am_wr ss vs).length = lv.length ∧ ∀ (i : Nat) (v : am_V), (am_wr ss vs)[i]? = some (some v) → lv[i]? = some (some v)
  | [], [], vs, h => by cases h; exact ⟨rfl, fun i v h => by simp [am_wr] at h⟩
  | 0 :: ss, o :: lv, vs, h => by
    obtain ⟨h1, h2⟩ := am_rd_wr ss lv vs (by simpa [am_rd] using h)
    refine ⟨by simp [am_wr, h1], fun i v hv => ?_⟩
    cases i with
    | zero => simp [am_wr] at hv
    | succ i => simp [am_wr] at hv; simpa using h2 i v hv
  | 1 :: ss, some (.inl x) :: lv, vs, h => by
    simp only [am_rd] at h
    split at h
    · rename_i vs' hr
      cases h
      obtain ⟨h1, h2⟩ := am_rd_wr ss lv vs' hr
      refine ⟨by simp [am_wr, h1], fun i v hv => ?_⟩
      cases i with
      | zero => simpa [am_wr] using hv
      | succ i => simp [am_wr] at hv; simpa using h2 i v hv
    · cases h
  | 2 :: ss, some (.inr (.inl x)) :: lv, vs, h => by
    simp only [am_rd] at h
    split at h
    · rename_i vs' hr
      cases h
      obtain ⟨h1, h2⟩ := am_rd_wr ss lv vs' hr
      refine ⟨by simp [am_wr, h1], fun i v hv => ?_⟩
      cases i with
      | zero => simpa [am_wr] using hv
      | succ i => simp [am_wr] at hv; simpa using h2 i v hv
    · cases h
  | (k + 3) :: ss, some (.inr (.inr (some a))) :: lv, vs, h => by
    simp only [am_rd] at h
    split at h
    · rename_i e
      subst e
      obtain ⟨h1, h2⟩ := am_rd_wr ss lv vs h
      refine ⟨by simp [am_wr, h1], fun i v hv => ?_⟩
      cases i with
      | zero => simpa [am_wr] using hv
      | succ i => simp [am_wr] at hv; simpa using h2 i v hv
    · cases h
  | 1 :: _, none :: _, _, h => by simp [am_rd] at h
  | 1 :: _, some (.inr _) :: _, _, h => by simp [am_rd] at h
  | 2 :: _, none :: _, _, h => by simp [am_rd] at h
  | 2 :: _, some (.inl _) :: _, _, h => by simp [am_rd] at h
  | 2 :: _, some (.inr (.inr _)) :: _, _, h => by simp [am_rd] at h
  | (_ + 3) :: _, none :: _, _, h => by simp [am_rd] at h
  | (_ + 3) :: _, some (.inl _) :: _, _, h => by simp [am_rd] at h
  | (_ + 3) :: _, some (.inr (.inl _)) :: _, _, h => by simp [am_rd] at h
  | (_ + 3) :: _, some (.inr (.inr none)) :: _, _, h => by simp [am_rd] at h
  | [], _ :: _, _, h => by simp [am_rd] at h
  | 0 :: _, [], _, h => by simp [am_rd] at h
  | 1 :: _, [], _, h => by simp [am_rd] at h
  | 2 :: _, [], _, h => by simp [am_rd] at h
  | (_ + 3) :: _, [], _, h => by simp [am_rd] at h
theorem am_weak {sc : Option (Nat × (Nat → Int))} {k : Nat} {bs : List am_B} {b : Nat} {lv lv' : am_Lv} {st : List am_V} {sh sh' : am_Sh} {M M' : am_M} {v : Option am_V} (hl : lv'.length = lv.length) (hs : ∀ (i : Nat) (v : am_V), lv'[i]? = some (some v) → lv[i]? = some (some v)) (h : am_R sc k bs b lv' st sh M v sh' M') : am_R sc k bs b lv st sh M v sh' M' := by
  intro p l e R s m args below meth c D ca base bb n0 sl0 H locs ls Q hC hS hQ
  exact h hC (hS.lv (lv_has_sub hS.1 (fun q hq => by
    obtain ⟨w, hw, e⟩ := am_lvl_mem.mp hq
    exact am_lvl_mem.mpr ⟨w, hs _ _ hw, e⟩)) hl) hQ
noncomputable def vCt (ss : List Nat) (g : List Int → am_M → am_Rs) (lv : am_Lv) (st : List am_V) (M : am_M) : am_Rs := match st with
  | [] => (match am_rd ss lv with
    | some vs => g vs M
    | none => none)
  | _ => none
theorem vCt_s {sc : Option (Nat × (Nat → Int))} {k : Nat} {bs : List am_B} {b : Nat} {ss : List Nat} {g : List Int → am_M → am_Rs} {lv : am_Lv} {st : List am_V} {sh sh' : am_Sh} {M M' : am_M} {v : Option am_V} {r : Int × am_M} (hg : ∀ vs M, g vs M = some r → am_R sc k bs b (am_wr ss vs) [] sh M v sh' M') (h : vCt ss g lv st M = some r) : am_R sc k bs b lv st sh M v sh' M' := by
  unfold vCt at h
  split at h
  · split at h
    · rename_i vs hr
      obtain ⟨h1, h2⟩ := am_rd_wr ss lv vs hr
      exact am_weak h1 h2 (hg vs M h)
    · cases h
  · cases h
noncomputable def un0 (g : am_M → am_Rs) (vs : List Int) (M : am_M) : am_Rs := match vs with
  | [] => g  M
  | _ => none
theorem un0_s {g : am_M → am_Rs} {r : Int × am_M} {P : List Int → am_M → Prop} (h : ∀ M, g  M = some r → P [] M) : ∀ vs M, un0 g vs M = some r → P vs M := by
  intro vs M hh
  unfold un0 at hh
  split at hh
  · exact h _ hh
  · cases hh
noncomputable def un1 (g : Int → am_M → am_Rs) (vs : List Int) (M : am_M) : am_Rs := match vs with
  | [a1] => g a1 M
  | _ => none
theorem un1_s {g : Int → am_M → am_Rs} {r : Int × am_M} {P : List Int → am_M → Prop} (h : ∀ a1 M, g a1 M = some r → P [a1] M) : ∀ vs M, un1 g vs M = some r → P vs M := by
  intro vs M hh
  unfold un1 at hh
  split at hh
  · exact h _ _ hh
  · cases hh
noncomputable def un2 (g : Int → Int → am_M → am_Rs) (vs : List Int) (M : am_M) : am_Rs := match vs with
  | [a1, a2] => g a1 a2 M
  | _ => none
theorem un2_s {g : Int → Int → am_M → am_Rs} {r : Int × am_M} {P : List Int → am_M → Prop} (h : ∀ a1 a2 M, g a1 a2 M = some r → P [a1, a2] M) : ∀ vs M, un2 g vs M = some r → P vs M := by
  intro vs M hh
  unfold un2 at hh
  split at hh
  · exact h _ _ _ hh
  · cases hh
noncomputable def un3 (g : Int → Int → Int → am_M → am_Rs) (vs : List Int) (M : am_M) : am_Rs := match vs with
  | [a1, a2, a3] => g a1 a2 a3 M
  | _ => none
theorem un3_s {g : Int → Int → Int → am_M → am_Rs} {r : Int × am_M} {P : List Int → am_M → Prop} (h : ∀ a1 a2 a3 M, g a1 a2 a3 M = some r → P [a1, a2, a3] M) : ∀ vs M, un3 g vs M = some r → P vs M := by
  intro vs M hh
  unfold un3 at hh
  split at hh
  · exact h _ _ _ _ hh
  · cases hh
noncomputable def un4 (g : Int → Int → Int → Int → am_M → am_Rs) (vs : List Int) (M : am_M) : am_Rs := match vs with
  | [a1, a2, a3, a4] => g a1 a2 a3 a4 M
  | _ => none
theorem un4_s {g : Int → Int → Int → Int → am_M → am_Rs} {r : Int × am_M} {P : List Int → am_M → Prop} (h : ∀ a1 a2 a3 a4 M, g a1 a2 a3 a4 M = some r → P [a1, a2, a3, a4] M) : ∀ vs M, un4 g vs M = some r → P vs M := by
  intro vs M hh
  unfold un4 at hh
  split at hh
  · exact h _ _ _ _ _ hh
  · cases hh
noncomputable def un5 (g : Int → Int → Int → Int → Int → am_M → am_Rs) (vs : List Int) (M : am_M) : am_Rs := match vs with
  | [a1, a2, a3, a4, a5] => g a1 a2 a3 a4 a5 M
  | _ => none
theorem un5_s {g : Int → Int → Int → Int → Int → am_M → am_Rs} {r : Int × am_M} {P : List Int → am_M → Prop} (h : ∀ a1 a2 a3 a4 a5 M, g a1 a2 a3 a4 a5 M = some r → P [a1, a2, a3, a4, a5] M) : ∀ vs M, un5 g vs M = some r → P vs M := by
  intro vs M hh
  unfold un5 at hh
  split at hh
  · exact h _ _ _ _ _ _ hh
  · cases hh
noncomputable def un6 (g : Int → Int → Int → Int → Int → Int → am_M → am_Rs) (vs : List Int) (M : am_M) : am_Rs := match vs with
  | [a1, a2, a3, a4, a5, a6] => g a1 a2 a3 a4 a5 a6 M
  | _ => none
theorem un6_s {g : Int → Int → Int → Int → Int → Int → am_M → am_Rs} {r : Int × am_M} {P : List Int → am_M → Prop} (h : ∀ a1 a2 a3 a4 a5 a6 M, g a1 a2 a3 a4 a5 a6 M = some r → P [a1, a2, a3, a4, a5, a6] M) : ∀ vs M, un6 g vs M = some r → P vs M := by
  intro vs M hh
  unfold un6 at hh
  split at hh
  · exact h _ _ _ _ _ _ _ hh
  · cases hh
noncomputable def un7 (g : Int → Int → Int → Int → Int → Int → Int → am_M → am_Rs) (vs : List Int) (M : am_M) : am_Rs := match vs with
  | [a1, a2, a3, a4, a5, a6, a7] => g a1 a2 a3 a4 a5 a6 a7 M
  | _ => none
theorem un7_s {g : Int → Int → Int → Int → Int → Int → Int → am_M → am_Rs} {r : Int × am_M} {P : List Int → am_M → Prop} (h : ∀ a1 a2 a3 a4 a5 a6 a7 M, g a1 a2 a3 a4 a5 a6 a7 M = some r → P [a1, a2, a3, a4, a5, a6, a7] M) : ∀ vs M, un7 g vs M = some r → P vs M := by
  intro vs M hh
  unfold un7 at hh
  split at hh
  · exact h _ _ _ _ _ _ _ _ hh
  · cases hh
noncomputable def un8 (g : Int → Int → Int → Int → Int → Int → Int → Int → am_M → am_Rs) (vs : List Int) (M : am_M) : am_Rs := match vs with
  | [a1, a2, a3, a4, a5, a6, a7, a8] => g a1 a2 a3 a4 a5 a6 a7 a8 M
  | _ => none
theorem un8_s {g : Int → Int → Int → Int → Int → Int → Int → Int → am_M → am_Rs} {r : Int × am_M} {P : List Int → am_M → Prop} (h : ∀ a1 a2 a3 a4 a5 a6 a7 a8 M, g a1 a2 a3 a4 a5 a6 a7 a8 M = some r → P [a1, a2, a3, a4, a5, a6, a7, a8] M) : ∀ vs M, un8 g vs M = some r → P vs M := by
  intro vs M hh
  unfold un8 at hh
  split at hh
  · exact h _ _ _ _ _ _ _ _ _ hh
  · cases hh
noncomputable def un9 (g : Int → Int → Int → Int → Int → Int → Int → Int → Int → am_M → am_Rs) (vs : List Int) (M : am_M) : am_Rs := match vs with
  | [a1, a2, a3, a4, a5, a6, a7, a8, a9] => g a1 a2 a3 a4 a5 a6 a7 a8 a9 M
  | _ => none
theorem un9_s {g : Int → Int → Int → Int → Int → Int → Int → Int → Int → am_M → am_Rs} {r : Int × am_M} {P : List Int → am_M → Prop} (h : ∀ a1 a2 a3 a4 a5 a6 a7 a8 a9 M, g a1 a2 a3 a4 a5 a6 a7 a8 a9 M = some r → P [a1, a2, a3, a4, a5, a6, a7, a8, a9] M) : ∀ vs M, un9 g vs M = some r → P vs M := by
  intro vs M hh
  unfold un9 at hh
  split at hh
  · exact h _ _ _ _ _ _ _ _ _ _ hh
  · cases hh
noncomputable def un10 (g : Int → Int → Int → Int → Int → Int → Int → Int → Int → Int → am_M → am_Rs) (vs : List Int) (M : am_M) : am_Rs := match vs with
  | [a1, a2, a3, a4, a5, a6, a7, a8, a9, a10] => g a1 a2 a3 a4 a5 a6 a7 a8 a9 a10 M
  | _ => none
theorem un10_s {g : Int → Int → Int → Int → Int → Int → Int → Int → Int → Int → am_M → am_Rs} {r : Int × am_M} {P : List Int → am_M → Prop} (h : ∀ a1 a2 a3 a4 a5 a6 a7 a8 a9 a10 M, g a1 a2 a3 a4 a5 a6 a7 a8 a9 a10 M = some r → P [a1, a2, a3, a4, a5, a6, a7, a8, a9, a10] M) : ∀ vs M, un10 g vs M = some r → P vs M := by
  intro vs M hh
  unfold un10 at hh
  split at hh
  · exact h _ _ _ _ _ _ _ _ _ _ _ hh
  · cases hh
noncomputable def un11 (g : Int → Int → Int → Int → Int → Int → Int → Int → Int → Int → Int → am_M → am_Rs) (vs : List Int) (M : am_M) : am_Rs := match vs with
  | [a1, a2, a3, a4, a5, a6, a7, a8, a9, a10, a11] => g a1 a2 a3 a4 a5 a6 a7 a8 a9 a10 a11 M
  | _ => none
theorem un11_s {g : Int → Int → Int → Int → Int → Int → Int → Int → Int → Int → Int → am_M → am_Rs} {r : Int × am_M} {P : List Int → am_M → Prop} (h : ∀ a1 a2 a3 a4 a5 a6 a7 a8 a9 a10 a11 M, g a1 a2 a3 a4 a5 a6 a7 a8 a9 a10 a11 M = some r → P [a1, a2, a3, a4, a5, a6, a7, a8, a9, a10, a11] M) : ∀ vs M, un11 g vs M = some r → P vs M := by
  intro vs M hh
  unfold un11 at hh
  split at hh
  · exact h _ _ _ _ _ _ _ _ _ _ _ _ hh
  · cases hh
