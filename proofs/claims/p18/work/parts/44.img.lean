/-! IMAGES -/
/-- the first k tables of shop o are as those of shop o1 were -/
def CPK (h h' : HI) (o o1 k : Nat) : Prop := (∀ q, q < o + 1 ∨ o + 2 * k < q → h' q = h q) ∧ ∀ j, j < k → ∃ m1, TT h (o1 + (1 + 2 * j)) m1 (wJ j) (MJ j) ∧ TT h' (o + (1 + 2 * j)) m1 (wJ j) (MJ j) ∧ ∀ i, i < m1 * wJ j → h' (o + (1 + 2 * j) + 1) i = h (o1 + (1 + 2 * j) + 1) i
theorem cp_step {h hk : HI} {g : HL} {o o1 k : Nat} (hk12 : k < 12) (ds : o + 24 < o1 + 1 ∨ o1 + 24 < o + 1) (A : ∀ j, j < 12 → ∃ m, TT h (o + (1 + 2 * j)) m (wJ j) (MJ j)) (B : ∀ j, j < 12 → ∃ m, TT h (o1 + (1 + 2 * j)) m (wJ j) (MJ j)) (I : CPK h hk o o1 k) : w_X8_copy (o + (1 + 2 * k)) (o1 + (1 + 2 * k)) hk g (fun h' _ => CPK h h' o o1 (k + 1)) := by
  obtain ⟨m, T⟩ := A k hk12
  obtain ⟨m1, T1⟩ := B k hk12
  have T' : TT hk (o + (1 + 2 * k)) m (wJ k) (MJ k) := T.cg (I.1 _ (by omega))
  have T1' : TT hk (o1 + (1 + 2 * k)) m1 (wJ k) (MJ k) := T1.cg (I.1 _ (by omega))
  have e := p_copy (g := g) T' T1' (by omega) (by omega) (by omega)
  revert e
  unfold w_X8_copy
  intro e x ex
  obtain ⟨e1, e2⟩ := e x ex
  have key : ∀ h' g', (g = g' ∧ JJ (SB (o + (1 + 2 * k))) hk h' ∧ TT h' (o + (1 + 2 * k)) m1 (wJ k) (MJ k) ∧ ∀ i, i < m1 * wJ k → h' (o + (1 + 2 * k) + 1) i = hk (o1 + (1 + 2 * k) + 1) i) → CPK h h' o o1 (k + 1) := by
    rintro h' g' ⟨-, J, T2, cc⟩
    refine ⟨fun q hq => ?_, fun j hj => ?_⟩
    · rw [J q (by unfold SB; omega)]; exact I.1 q (by omega)
    · by_cases ej : j = k
      · subst ej
        refine ⟨m1, T1, T2, fun i hi => ?_⟩
        have e := cc i hi
        rw [I.1 (o1 + (1 + 2 * j) + 1) (by omega)] at e; exact e
      · obtain ⟨a, b, c, d⟩ := I.2 j (by omega)
        refine ⟨a, b, c.cg (J _ (by unfold SB; omega)), fun i hi => ?_⟩
        rw [J (o + (1 + 2 * j) + 1) (by unfold SB; omega)]; exact d i hi
  refine ⟨fun c => key _ _ (e1 c), fun c => ?_⟩
  obtain ⟨e3, e4⟩ := e2 c
  refine ⟨fun c => key _ _ (e3 c), fun c => ?_⟩
  obtain ⟨e5, e6⟩ := e4 c
  refine ⟨fun c => key _ _ (e5 c), fun c => ?_⟩
  obtain ⟨e7, e8⟩ := e6 c
  refine ⟨fun c => ?_, fun c => key _ _ (e8 c)⟩
  obtain ⟨e9, e10⟩ := e7 c
  exact ⟨e9, fun a ea b eb => key _ _ (e10 a ea b eb)⟩
theorem p_X6_copy {h : HI} {g : HL} {o o1 : Nat} (ds : o + 24 < o1 + 1 ∨ o1 + 24 < o + 1) (A : ∀ j, j < 12 → ∃ m, TT h (o + (1 + 2 * j)) m (wJ j) (MJ j)) (B : ∀ j, j < 12 → ∃ m, TT h (o1 + (1 + 2 * j)) m (wJ j) (MJ j)) : w_X6_copy o o1 h g (fun h' _ => CPK h h' o o1 12) := by
  unfold w_X6_copy
  refine c_v (cp_step (k := 0) (by omega) ds A B ⟨fun _ _ => rfl, fun j hj => by omega⟩) ?_
  intro h1 g1 I1
  refine c_v (cp_step (k := 1) (by omega) ds A B I1) ?_
  intro h2 g2 I2
  refine c_v (cp_step (k := 2) (by omega) ds A B I2) ?_
  intro h3 g3 I3
  refine c_v (cp_step (k := 3) (by omega) ds A B I3) ?_
  intro h4 g4 I4
  refine c_v (cp_step (k := 4) (by omega) ds A B I4) ?_
  intro h5 g5 I5
  refine c_v (cp_step (k := 5) (by omega) ds A B I5) ?_
  intro h6 g6 I6
  refine c_v (cp_step (k := 6) (by omega) ds A B I6) ?_
  intro h7 g7 I7
  refine c_v (cp_step (k := 7) (by omega) ds A B I7) ?_
  intro h8 g8 I8
  refine c_v (cp_step (k := 8) (by omega) ds A B I8) ?_
  intro h9 g9 I9
  refine c_v (cp_step (k := 9) (by omega) ds A B I9) ?_
  intro h10 g10 I10
  refine c_v (cp_step (k := 10) (by omega) ds A B I10) ?_
  intro h11 g11 I11
  refine c_v (cp_step (k := 11) (by omega) ds A B I11) ?_
  intro h12 g12 I12
  exact I12
theorem p_X10_imageAt {h : HI} {g : HL} {i : Nat} (hi : i < 2) : w_X10_imageAt (nI i) h g (fun r h' g' => h = h' ∧ g = g' ∧ 26 + 25 * i = r) := by
  unfold w_X10_imageAt j_X10_imageAt_15
  have : i = 0 ∨ i = 1 := by omega
  rcases this with rfl | rfl
  · exact ⟨fun c => absurd nI_0 c, fun _ => ⟨rfl, rfl, rfl⟩⟩
  · exact ⟨fun _ => ⟨rfl, rfl, rfl⟩, fun c => absurd c (by decide)⟩
theorem nar1 : vp_nar .boolean (1 : Int32) = 1 := zb_v (.inr rfl)
theorem p_X10_image {h : HI} {g : HL} (c : CJ h) {x1 : Int32} : w_X10_image x1 h g (fun r h' _ => (¬ bd 0 1 x1 ∧ r = -2 ∧ h' = h) ∨ ∃ i, i < 2 ∧ x1 = nI i ∧ r = 1 ∧ ∃ h1, CPK h h1 (26 + 25 * i) 1 12 ∧ h' = hu h1 76 i 1) := by
  unfold w_X10_image
  refine c_wb (fun q0 => ⟨fun _ => ?_, fun c => absI c⟩) (fun q0 => ⟨fun c => absurd rfl c, fun _ => .inl ⟨fun hc => q0 (bd.mo hc (by decide) (by decide)), rfl, rfl⟩⟩)
  obtain ⟨i, i1, i2, rfl⟩ := bd_nI (bd.mo q0 (c := 0) (d := 1) (by decide) (by decide))
  refine c_n (p_X10_imageAt (by omega)) ?_
  rintro _ _ _ ⟨rfl, rfl, rfl⟩
  refine and_have (isS26 (by omega)) (fun hs => ?_)
  refine c_v (p_X6_copy (by omega) (c _ hs) (c _ isS1)) ?_
  intro h1 g1 I1
  refine and_have (vp_in_nI (by omega) (by omega)) (fun _ => ?_)
  intro h2 e2
  rw [nar1, nI_clamp (by omega)] at e2
  exact .inr ⟨i, by omega, rfl, rfl, h1, I1, e2⟩
theorem p_X11_image {h : HI} {g : HL} {x1 : Int32} : w_X11_image x1 h g (fun r h' _ => (¬ bd 0 1 x1 ∧ r = -2 ∧ h' = h) ∨ ∃ i, i < 2 ∧ x1 = nI i ∧ r = 1 ∧ (∀ o, o ≠ 137 → o ≠ 138 → h' o = h o) ∧ h' 138 = upd (h 138) i 1 ∧ (∀ k, k < 887 → h' 137 (887 * i + k) = h 136 k) ∧ ∀ k, k < 887 * i ∨ 887 * i + 887 ≤ k → h' 137 k = h 137 k) := by
  unfold w_X11_image
  refine c_in3 (fun q0 => ⟨fun _ => ?_, fun c => absI c⟩) (fun q0 => ⟨fun c => absurd rfl c, fun _ => .inl ⟨fun hc => q0 (bd.mo hc (by decide) (by decide)), rfl, rfl⟩⟩)
  obtain ⟨i, i1, i2, rfl⟩ := bd_nI (bd.mo q0 (c := 0) (d := 1) (by decide) (by decide))
  refine and_have (vp_in_nI (by omega) (by omega)) (fun _ => ?_)
  intro h1 e1
  rw [nar1, nI_clamp (by omega)] at e1
  refine lpE_intro (fun ⟨a_q, b_q, h_q, _⟩ => ∃ k : Nat, k ≤ 887 ∧ nI i = a_q ∧ nI k = b_q ∧ (∀ o, o ≠ 137 → o ≠ 138 → h_q o = h o) ∧ h_q 138 = upd (h 138) i 1 ∧ (∀ j, j < k → h_q 137 (887 * i + j) = h 136 j) ∧ ∀ j, j < 887 * i ∨ 887 * i + 887 ≤ j → h_q 137 j = h 137 j) (fun ⟨_, b_q, _, _⟩ => dif (nI 887) b_q) ?_ _ ⟨0, by omega, rfl, nI_0, fun o _ n => by rw [e1, hu_ne n], by rw [e1, hu_eq], fun j hj => by omega, fun j _ => by rw [e1, hu_ne (by decide)]⟩
  rintro ⟨y1, y2, h2, g2⟩ K ⟨k, hk, rfl, rfl, F, F8, F7, F7'⟩ hK
  unfold F_X11_image_22; dsimp only; unfold b_X11_image_22
  refine ⟨fun c => ?_, fun c => ?_⟩
  · rw [show (887 : Int32) = nI 887 from rfl, nI_leI (by omega) (by omega)] at c
    exact .inr ⟨i, by omega, rfl, rfl, F, F8, fun j hj => F7 j (by omega), F7'⟩
  · have hd := dif_lt (a := nI 887) c
    rw [show (887 : Int32) = nI 887 from rfl, nI_leI (by omega) (by omega)] at c
    rw [show (887 : Int32) * nI i = nI (887 * i) from pk_mul 887 i, nI_add, nI_clamp (n := 887 * i + k) (by omega), nI_clamp (n := k) (by omega)]
    refine and_have (vp_in_nI (by omega) (by omega)) (fun _ => and_have (vp_in_nI (by omega) (by omega)) (fun _ => ?_))
    intro h3 e3
    rintro _ rfl
    refine hK _ ⟨k + 1, by omega, rfl, (nI_1 k).symm, fun o n m => by rw [e3, hu_ne n]; exact F o n m, by rw [e3, hu_ne (by decide)]; exact F8, fun j hj => ?_, fun j hj => by rw [e3, hu_eq, pk_un (by omega)]; exact F7' j hj⟩ hd
    rw [e3, hu_eq]
    by_cases ej : j = k
    · subst ej
      rw [pk_us, F 136 (by decide) (by decide)]
    · rw [pk_un (by omega)]; exact F7 j (by omega)
theorem p_X11_from {h : HI} {g : HL} {x1 : Int32} : w_X11_from x1 h g (fun r h' _ => (¬ bd 0 1 x1 ∧ r = -2 ∧ h' = h) ∨ ∃ i, i < 2 ∧ x1 = nI i ∧ ((h 138 i = 0 ∧ r = -3 ∧ h' = h) ∨ (¬ h 138 i = 0 ∧ r = 1 ∧ (∀ o, o ≠ 136 → h' o = h o) ∧ (∀ k, k < 887 → h' 136 k = h 137 (887 * i + k)) ∧ ∀ k, 887 ≤ k → h' 136 k = h 136 k))) := by
  unfold w_X11_from
  refine c_in3 (fun q0 => ⟨fun _ => ?_, fun c => absI c⟩) (fun q0 => ⟨fun c => absurd rfl c, fun _ => .inl ⟨fun hc => q0 (bd.mo hc (by decide) (by decide)), rfl, rfl⟩⟩)
  obtain ⟨i, i1, i2, rfl⟩ := bd_nI (bd.mo q0 (c := 0) (d := 1) (by decide) (by decide))
  rw [nI_clamp (n := i) (by omega)]
  refine and_have (vp_in_nI (by omega) (by omega)) (fun _ => ⟨fun ck => ?_, fun ck => .inr ⟨i, by omega, rfl, .inl ⟨ck, rfl, rfl⟩⟩⟩)
  refine lpE_intro (fun ⟨a_q, b_q, h_q, _⟩ => ∃ k : Nat, k ≤ 887 ∧ nI i = a_q ∧ nI k = b_q ∧ (∀ o, o ≠ 136 → h_q o = h o) ∧ (∀ j, j < k → h_q 136 j = h 137 (887 * i + j)) ∧ ∀ j, 887 ≤ j → h_q 136 j = h 136 j) (fun ⟨_, b_q, _, _⟩ => dif (nI 887) b_q) ?_ _ ⟨0, by omega, rfl, nI_0, fun _ _ => rfl, fun j hj => by omega, fun _ _ => rfl⟩
  rintro ⟨y1, y2, h2, g2⟩ K ⟨k, hk, rfl, rfl, F, F6, F6'⟩ hK
  unfold F_X11_from_27; dsimp only; unfold b_X11_from_27
  refine ⟨fun c => ?_, fun c => ?_⟩
  · rw [show (887 : Int32) = nI 887 from rfl, nI_leI (by omega) (by omega)] at c
    exact .inr ⟨i, by omega, rfl, .inr ⟨ck, rfl, F, fun j hj => F6 j (by omega), F6'⟩⟩
  · have hd := dif_lt (a := nI 887) c
    rw [show (887 : Int32) = nI 887 from rfl, nI_leI (by omega) (by omega)] at c
    rw [show (887 : Int32) * nI i = nI (887 * i) from pk_mul 887 i, nI_add, nI_clamp (n := 887 * i + k) (by omega), nI_clamp (n := k) (by omega)]
    refine and_have (vp_in_nI (by omega) (by omega)) (fun _ => and_have (vp_in_nI (by omega) (by omega)) (fun _ => ?_))
    intro h3 e3
    rintro _ rfl
    refine hK _ ⟨k + 1, by omega, rfl, (nI_1 k).symm, fun o n => by rw [e3, hu_ne n]; exact F o n, fun j hj => ?_, fun j hj => by rw [e3, hu_eq, pk_un (by omega)]; exact F6' j hj⟩ hd
    rw [e3, hu_eq]
    by_cases ej : j = k
    · subst ej
      rw [pk_us, F 137 (by decide)]
    · rw [pk_un ej]; exact F6 j (by omega)
theorem TT.un {h h' : HI} {o o' m n w M w' M' : Nat} (x : TT h o m w M) (y : TT h' o' n w' M') (e : h o 3 = h' o' 3) : m = n := by
  have a := x.2.2.1
  have b := y.2.2.1
  rw [e, b] at a
  have c1 := x.2.2.2.1
  have c2 := y.2.2.2.1
  have d1 := x.2.2.2.2.2.2.2.2
  have d2 := y.2.2.2.2.2.2.2.2
  exact ((nI_eq (by omega) (by omega)).mp a).symm
/-- a shop that was copied counts as the other did -/
theorem CN.cp {h h' : HI} {o o1 : Nat} {f f' : Nat → Int32} (c : CN h o1 f) (I : CPK h h' o o1 12) (ef : ∀ i, i < 9 → f' i = f i) : CN h' o f' := by
  have c' : CN h o1 f' := c.cg (fun _ _ _ => rfl) ef
  intro j hj
  obtain ⟨m, T, k⟩ := c' j hj
  obtain ⟨m1, T1, T2, -⟩ := I.2 j hj
  have : m = m1 := T.un T1 rfl
  subst this
  exact ⟨m, T2, k⟩
theorem RG.img {f f' : Nat → Int32} (r : RG f) (e : ∀ k, k < 887 → f' k = f k) : RG f' := fun k => by
  by_cases h : k < 887
  · rw [e k h]; exact r k
  · exact okZ (.inr (by omega))
