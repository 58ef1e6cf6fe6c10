/-! THE START -/
theorem p_X8_init {h : HI} {g : HL} {o w M : Nat} (hN : gN (o + 1) = M * w) (hw : 0 < w ∧ w ≤ 20) (hM : 0 < M ∧ M ≤ 100) : w_X8_init o (nI M) (nI w) h g (fun h' _ => JJ (SB o) h h' ∧ TT h' o 0 w M) := by
  have hMw : M * w ≤ 100 * 20 := Nat.mul_le_mul hM.2 hw.2
  unfold w_X8_init
  refine ⟨fun c => absurd c (nI_nle (by omega) (by omega)), fun _ => ⟨fun c => absurd c (nI_nlt (a := 100) (b := M) (by omega) (by omega)), fun _ => ⟨fun c => absurd c (nI_nle (by omega) (by omega)), fun _ => ⟨fun c => absurd c (nI_nlt (a := 20) (b := w) (by omega) (by omega)), fun _ => ?_⟩⟩⟩⟩
  unfold j_X8_init_29
  refine ⟨fun c => absurd c (by decide), fun _ => ?_⟩
  unfold j_X8_init_40
  refine ⟨fun c => absurd c (by decide), fun _ => ?_⟩
  unfold j_X8_init_53
  refine ⟨fun c => absurd c (by decide), fun _ => ?_⟩
  unfold j_X8_init_68
  rw [pk_mul]
  refine ⟨⟨nI_pos (by omega), by rw [nI_clamp (by omega), hN]⟩, ?_⟩
  intro h1 e1
  intro h2 e2
  refine ⟨(JJ.rf.hua e1 (by unfold SB; omega)).hua e2 (by unfold SB; omega), ?_, ?_, ?_, by omega, hN, hw.1, hw.2, hM.1, hM.2⟩
  · rw [e2, hua_eq]; rfl
  · rw [e2, hua_eq]; rfl
  · rw [e2, hua_eq]; exact nI_0.symm
def SHP (o q : Nat) : Prop := o ≤ q ∧ q ≤ o + 24
/-- the first k tables stand, empty -/
def MK (h h' : HI) (o k : Nat) : Prop := JJ (SHP o) h h' ∧ ∀ j, j < k → TT h' (o + (1 + 2 * j)) 0 (wJ j) (MJ j)
theorem mk_step {h hk h' : HI} {o k : Nat} (hk12 : k < 12) (I : MK h hk o k) (a : JJ (SB (o + (1 + 2 * k))) hk h') (T : TT h' (o + (1 + 2 * k)) 0 (wJ k) (MJ k)) : MK h h' o (k + 1) := by
  refine ⟨I.1.tr (a.mo (fun q hq => by unfold SB at hq; unfold SHP; omega)), fun j hj => ?_⟩
  by_cases e : j = k
  · subst e; exact T
  · exact (I.2 j (by omega)).cg (a _ (by unfold SB; omega))
def fam (k : Nat) : Int32 := if k % 3 = 2 then 100000 else 1
theorem p_X6_init {h : HI} {g : HL} {o : Nat} (ho : isS o) : w_X6_init o h g (fun h' _ => JJ (SHP o) h h' ∧ (∀ j, j < 12 → TT h' (o + (1 + 2 * j)) (if j = 1 ∨ j = 10 then 4 else if j = 7 then 1 else 0) (wJ j) (MJ j)) ∧ (∀ i, i < 12 → h' (o + (1 + 2 * 1) + 1) i = fam i) ∧ (∀ i, i < 4 → h' (o + (1 + 2 * 10) + 1) i = 0) ∧ ∀ i, i < 2 → h' (o + (1 + 2 * 7) + 1) i = 0) := by
  have gn : ∀ j, j < 12 → gN (o + (1 + 2 * j) + 1) = MJ j * wJ j := (by decide +kernel : ∀ o ∈ isSL, ∀ j, j < 12 → gN (o + (1 + 2 * j) + 1) = MJ j * wJ j) o ho
  unfold w_X6_init
  refine c_v (p_X8_init (o := o + (1 + 2 * 0)) (w := 5) (M := 24) (gn 0 (by omega)) (by omega) (by omega)) ?_
  rintro h1 g1 ⟨J1, T1⟩
  have I1 : MK h h1 o 1 := mk_step (by omega) ⟨JJ.rf, fun j hj => by omega⟩ J1 T1
  refine c_v (p_X8_init (o := o + (1 + 2 * 1)) (w := 3) (M := 4) (gn 1 (by omega)) (by omega) (by omega)) ?_
  rintro h2 g2 ⟨J1, T1⟩
  have I2 : MK h h2 o 2 := mk_step (by omega) I1 J1 T1
  refine c_v (p_X8_init (o := o + (1 + 2 * 2)) (w := 6) (M := 60) (gn 2 (by omega)) (by omega) (by omega)) ?_
  rintro h3 g3 ⟨J1, T1⟩
  have I3 : MK h h3 o 3 := mk_step (by omega) I2 J1 T1
  refine c_v (p_X8_init (o := o + (1 + 2 * 3)) (w := 15) (M := 16) (gn 3 (by omega)) (by omega) (by omega)) ?_
  rintro h4 g4 ⟨J1, T1⟩
  have I4 : MK h h4 o 4 := mk_step (by omega) I3 J1 T1
  refine c_v (p_X8_init (o := o + (1 + 2 * 4)) (w := 4) (M := 8) (gn 4 (by omega)) (by omega) (by omega)) ?_
  rintro h5 g5 ⟨J1, T1⟩
  have I5 : MK h h5 o 5 := mk_step (by omega) I4 J1 T1
  refine c_v (p_X8_init (o := o + (1 + 2 * 5)) (w := 1) (M := 6) (gn 5 (by omega)) (by omega) (by omega)) ?_
  rintro h6 g6 ⟨J1, T1⟩
  have I6 : MK h h6 o 6 := mk_step (by omega) I5 J1 T1
  refine c_v (p_X8_init (o := o + (1 + 2 * 6)) (w := 3) (M := 9) (gn 6 (by omega)) (by omega) (by omega)) ?_
  rintro h7 g7 ⟨J1, T1⟩
  have I7 : MK h h7 o 7 := mk_step (by omega) I6 J1 T1
  refine c_v (p_X8_init (o := o + (1 + 2 * 7)) (w := 2) (M := 1) (gn 7 (by omega)) (by omega) (by omega)) ?_
  rintro h8 g8 ⟨J1, T1⟩
  have I8 : MK h h8 o 8 := mk_step (by omega) I7 J1 T1
  refine c_v (p_X8_init (o := o + (1 + 2 * 8)) (w := 2) (M := 40) (gn 8 (by omega)) (by omega) (by omega)) ?_
  rintro h9 g9 ⟨J1, T1⟩
  have I9 : MK h h9 o 9 := mk_step (by omega) I8 J1 T1
  refine c_v (p_X8_init (o := o + (1 + 2 * 9)) (w := 2) (M := 3) (gn 9 (by omega)) (by omega) (by omega)) ?_
  rintro h10 g10 ⟨J1, T1⟩
  have I10 : MK h h10 o 10 := mk_step (by omega) I9 J1 T1
  refine c_v (p_X8_init (o := o + (1 + 2 * 10)) (w := 1) (M := 4) (gn 10 (by omega)) (by omega) (by omega)) ?_
  rintro h11 g11 ⟨J1, T1⟩
  have I11 : MK h h11 o 11 := mk_step (by omega) I10 J1 T1
  refine c_v (p_X8_init (o := o + (1 + 2 * 11)) (w := 1) (M := 60) (gn 11 (by omega)) (by omega) (by omega)) ?_
  rintro h12 g12 ⟨J1, T1⟩
  have I12 : MK h h12 o 12 := mk_step (by omega) I11 J1 T1
  refine lpE_intro (fun ⟨a_q, h_q, _⟩ => ∃ k : Nat, k ≤ 4 ∧ nI k = a_q ∧ JJ (SHP o) h h_q ∧ (∀ j, j < 12 → TT h_q (o + (1 + 2 * j)) (if j = 1 then k else 0) (wJ j) (MJ j)) ∧ ∀ i, i < k * 3 → h_q (o + (1 + 2 * 1) + 1) i = fam i) (fun ⟨a_q, _, _⟩ => dif (nI 4) a_q) ?_ _ ⟨0, by omega, nI_0, I12.1, fun j hj => by
    by_cases e : j = 1
    · rw [if_pos e]; exact I12.2 j hj
    · rw [if_neg e]; exact I12.2 j hj, fun i hi => by omega⟩
  rintro ⟨y1, hx, gx⟩ K ⟨k, hk, rfl, J, T, fm⟩ hK
  unfold F_X6_init_172; dsimp only; unfold b_X6_init_172
  refine ⟨fun c => ?_, fun c => ?_⟩
  · rw [show (4 : Int32) = nI 4 from rfl, nI_leI (by omega) (by omega)] at c
    have k4 : k = 4 := by omega
    subst k4
    refine lpE_intro (fun ⟨a_q, h_q, _⟩ => ∃ k : Nat, k ≤ 4 ∧ nI k = a_q ∧ JJ (SHP o) h h_q ∧ (∀ j, j < 12 → TT h_q (o + (1 + 2 * j)) (if j = 1 then 4 else if j = 10 then k else 0) (wJ j) (MJ j)) ∧ (∀ i, i < 12 → h_q (o + (1 + 2 * 1) + 1) i = fam i) ∧ ∀ i, i < k → h_q (o + (1 + 2 * 10) + 1) i = 0) (fun ⟨a_q, _, _⟩ => dif (nI 4) a_q) ?_ _ ⟨0, by omega, nI_0, J, fun j hj => by
      have := T j hj
      by_cases e : j = 1
      · rw [if_pos e] at this ⊢; exact this
      · rw [if_neg e] at this ⊢
        by_cases e2 : j = 10
        · rw [if_pos e2]; exact this
        · rw [if_neg e2]; exact this, fun i hi => fm i (by omega), fun i hi => by omega⟩
    rintro ⟨y1, hy, gy⟩ K2 ⟨n, hn, rfl, J2, T2, fm2, nd⟩ hK2
    unfold F_X6_init_198; dsimp only; unfold b_X6_init_198
    refine ⟨fun c => ?_, fun c => ?_⟩
    · rw [show (4 : Int32) = nI 4 from rfl, nI_leI (by omega) (by omega)] at c
      have n4 : n = 4 := by omega
      subst n4
      have T7 : TT hy (o + (1 + 2 * 7)) 0 2 1 := T2 7 (by omega)
      refine c_i (p_add T7 (by omega)) ?_
      rintro _ hz gz ⟨rfl, -, Jz, Tz, -, hrz⟩
      intro hf ef
      have e0 : ∀ q, q ≠ o → hf q = hz q := fun q n => by rw [ef, hua_ne n]
      refine ⟨(J2.tr (Jz.mo (fun q hq => by unfold SB at hq; unfold SHP; omega))).hua ef (by unfold SHP; omega), fun j hj => ?_, fun i hi => ?_, fun i hi => ?_, fun i hi => ?_⟩
      rotate_left
      · rw [e0 _ (by omega), Jz _ (by unfold SB; omega)]; exact fm2 i hi
      · rw [e0 _ (by omega), Jz _ (by unfold SB; omega)]; exact nd i (by omega)
      · rw [e0 _ (by omega)]
        have e := hrz i hi
        rw [Nat.zero_mul, Nat.zero_add] at e
        rw [e]
        have : i = 0 ∨ i = 1 := by omega
        rcases this with rfl | rfl <;> rfl
      by_cases e7 : j = 7
      · subst e7; exact Tz.cg (e0 _ (by omega))
      · have := T2 j hj
        rw [if_neg e7]
        have e1 : (if j = 1 ∨ j = 10 then 4 else 0) = (if j = 1 then 4 else if j = 10 then 4 else 0) := by
          by_cases a : j = 1
          · rw [if_pos (.inl a), if_pos a]
          · by_cases b : j = 10
            · rw [if_pos (.inr b), if_neg a, if_pos b]
            · rw [if_neg (fun q => q.elim a b), if_neg a, if_neg b]
        rw [e1]
        exact this.cg ((e0 _ (by omega)).trans (Jz _ (by unfold SB; omega)))
    · have hd := dif_lt (a := nI 4) c
      rw [show (4 : Int32) = nI 4 from rfl, nI_leI (by omega) (by omega)] at c
      have T10 : TT hy (o + (1 + 2 * 10)) n 1 4 := T2 10 (by omega)
      refine c_i (p_add T10 (by omega)) ?_
      rintro _ hz gz ⟨rfl, -, Jz, Tz, hoz, hrz⟩
      rintro _ rfl
      refine hK2 _ ⟨n + 1, by omega, (nI_1 n).symm, J2.tr (Jz.mo (fun q hq => by unfold SB at hq; unfold SHP; omega)), fun j hj => ?_, fun i hi => ?_, fun i hi => ?_⟩ hd
      rotate_left
      · rw [Jz _ (by unfold SB; omega)]; exact fm2 i hi
      · by_cases q : i < n
        · rw [hoz i (.inl (by omega))]; exact nd i q
        · have e := hrz 0 (by omega)
          rw [show n * 1 + 0 = i by omega] at e
          rw [e]; rfl
      by_cases e10 : j = 10
      · subst e10; exact Tz
      · have := T2 j hj
        rw [if_neg e10] at this ⊢
        exact this.cg (Jz _ (by unfold SB; omega))
  · have hd := dif_lt (a := nI 4) c
    rw [show (4 : Int32) = nI 4 from rfl, nI_leI (by omega) (by omega)] at c
    have T1' : TT hx (o + (1 + 2 * 1)) k 3 4 := T 1 (by omega)
    refine c_i (p_add T1' (by omega)) ?_
    rintro _ hz gz ⟨rfl, -, Jz, Tz, hoz, hrz⟩
    rintro _ rfl
    refine hK _ ⟨k + 1, by omega, (nI_1 k).symm, J.tr (Jz.mo (fun q hq => by unfold SB at hq; unfold SHP; omega)), fun j hj => ?_, fun i hi => ?_⟩ hd
    rotate_left
    · by_cases q : i < k * 3
      · rw [hoz i (.inl q)]; exact fm i q
      · obtain ⟨c, rfl⟩ : ∃ c, i = k * 3 + c := ⟨i - k * 3, by omega⟩
        rw [hrz c (by omega)]
        unfold fam
        have : c = 0 ∨ c = 1 ∨ c = 2 := by omega
        rcases this with rfl | rfl | rfl
        · rw [if_neg (by omega)]; rfl
        · rw [if_neg (by omega)]; rfl
        · rw [if_pos (by omega)]; rfl
    by_cases e1 : j = 1
    · subst e1; exact Tz
    · have := T j hj
      rw [if_neg e1] at this ⊢
      exact this.cg (Jz _ (by unfold SB; omega))
theorem JJ.hz {S : Nat → Prop} {a b c : HI} {n N : Nat} (x : JJ S a b) (e : c = hz b n N) (hs : ∀ q, n < q → q ≤ n + N → S q) : JJ S a c := fun q hq => by
  have : ¬ (n < q ∧ q ≤ n + N) := fun k => hq (hs q k.1 k.2)
  have e2 : c q = b q := by
    rw [e]; exact if_neg this
  rw [e2]; exact x q hq

theorem p_X4_init {h : HI} {g : HL} : w_X4_init h g (fun h' _ => JJ SCa h h' ∧ h' 77 9 = 1) := by
  unfold w_X4_init
  intro h1 e1 h2 e2 g3 e3 h4 e4
  exact ⟨((JJ.rf.hua e1 (by unfold SCa; omega)).hua e2 (by unfold SCa; omega)).hua e4 (by unfold SCa; omega), by rw [e4, hua_eq]; rfl⟩
theorem p_X7_init {h : HI} {g : HL} : w_X7_init h g (fun h' _ => JJ SC h h') := by
  unfold w_X7_init
  intro h1 e1 h2 e2 h3 e3 h4 e4
  exact (((JJ.rf.hua e1 (by unfold SC; omega)).hua e2 (by unfold SC; omega)).hua e3 (by unfold SC; omega)).hua e4 (by unfold SC; omega)
theorem p_X2_init {h : HI} {g : HL} : w_X2_init h g (fun h' _ => JJ SC h h') := by
  unfold w_X2_init
  intro h1 e1 h2 e2 h3 e3 h4 e4
  exact (((JJ.rf.hua e1 (by unfold SC; omega)).hua e2 (by unfold SC; omega)).hua e3 (by unfold SC; omega)).hua e4 (by unfold SC; omega)
theorem p_X0_init {h : HI} {g : HL} {o : Nat} : w_X0_init o h g (fun h' _ => JJ (SB o) h h') := by
  unfold w_X0_init
  intro h1 e1 h2 e2
  exact (JJ.rf.hua e1 (by unfold SB; omega)).hua e2 (by unfold SB; omega)
def m0 (j : Nat) : Nat := if j = 1 ∨ j = 10 then 4 else if j = 7 then 1 else 0
theorem rg_Y {k : Nat} (h : 11 ≤ k ∧ k < 20) : rg k = dfl := by
  unfold rg
  rw [if_neg (by omega), if_neg (by omega), if_neg (by omega), if_neg (by omega), if_neg (by omega), if_neg (by omega), if_neg (by omega), if_neg (by omega), if_neg (by omega), if_neg (by omega), if_neg (by omega), if_neg (by omega), if_neg (by omega), if_neg (by omega), if_neg (by omega), if_neg (by omega), if_neg (by omega)]
theorem z_bd {a b : Int} (h : a ≤ 0) (h2 : 0 ≤ b) : bd a b (0 : Int32) := by
  unfold bd; rw [show (0 : Int32).toInt = 0 by decide]; exact ⟨h, h2⟩
theorem okR0 {k : Nat} (h : k < 140 ∨ 152 ≤ k) : okR k 0 := by
  by_cases c : k < 11
  · have : ∀ k : Nat, k < 11 → (rg k).1 ≤ 0 ∧ 0 ≤ (rg k).2 := by decide
    exact z_bd (this k c).1 (this k c).2
  by_cases c1 : k < 20
  · unfold okR; rw [rg_Y (by omega)]; exact bd_all 0
  by_cases c2 : k < 140
  · exact okA (by omega) (fun _ => z_bd (by omega) (by omega)) (fun _ => z_bd (by omega) (by omega))
  by_cases c3 : k < 512
  · exact okC' (by omega) (fun _ => z_bd (by omega) (by omega))
  by_cases c4 : k < 672
  · exact okD (by omega) (fun _ => z_bd (by omega) (by omega)) (fun _ => z_bd (by omega) (by omega))
  by_cases c5 : k < 704
  · exact okE (by omega) (fun _ => z_bd (by omega) (by omega)) (fun _ => z_bd (by omega) (by omega))
  by_cases c6 : 817 ≤ k ∧ k < 823
  · exact okF c6 (fun _ => z_bd (by omega) (by omega))
  · exact okZ (by omega)
theorem ps_u {f : Nat → Int32} {k i : Nat} {x : Int32} (e : i = k) : upd f k x i = x := by subst e; exact pk_us
theorem p_X11_init {h : HI} {g : HL} {Q : HI → HL → Prop} (hQ : ∀ (h' : HI) (g' : HL), ((∀ o, o < 135 → h' o = h o) ∧ RG (h' 136) ∧ (∀ i, i < 9 → h' 136 i = 0) ∧ h' 138 = (fun _ => 0) ∧ h' 147 0 = 0 ∧ h' 147 1 = 1 ∧ (∀ i, i < 12 → h' 136 (140 + i) = fam i) ∧ ∀ i, i < 140 ∨ 152 ≤ i → h' 136 i = 0) → Q h' g') : w_X11_init h g Q := by
  unfold w_X11_init
  intro h1 e1 h2 e2 h3 e3 h4 e4 h5 e5 h6 e6 g7 e7 h8 e8 h9 e9 h10 e10 h11 e11 h12 e12 h13 e13
  have F : ∀ o, o < 135 → h13 o = h o := fun o ho => by
    rw [e13, hua_ne (by omega), e12, hua_ne (by omega), e11, hua_ne (by omega), e10, hua_ne (by omega), e9, hua_ne (by omega), e8, hua_ne (by omega), e6, hua_ne (by omega), e5, hua_ne (by omega), e4, hua_ne (by omega), e3, hua_ne (by omega), e2, hua_ne (by omega), e1, hua_ne (by omega)]
  have z6 : h13 136 = fun _ => 0 := by
    rw [e13, hua_ne (by decide), e12, hua_ne (by decide), e11, hua_ne (by decide), e10, hua_ne (by decide), e9, hua_ne (by decide), e8, hua_ne (by decide), e6, hua_ne (by decide), e5, hua_ne (by decide), e4, hua_ne (by decide), e3, hua_ne (by decide), e2, hua_ne (by decide), e1, hua_eq]
  have z8 : h13 138 = fun _ => 0 := by
    rw [e13, hua_ne (by decide), e12, hua_ne (by decide), e11, hua_ne (by decide), e10, hua_ne (by decide), e9, hua_ne (by decide), e8, hua_ne (by decide), e6, hua_ne (by decide), e5, hua_ne (by decide), e4, hua_ne (by decide), e3, hua_eq]
  have z7 : h13 147 = fun _ => 0 := by
    rw [e13, hua_ne (by decide), e12, hua_eq]
  clear e1 e2 e3 e4 e5 e6 e7 e8 e9 e10 e11 e12 e13
  refine lpE_intro (fun ⟨a_q, h_q, _⟩ => ∃ k : Nat, k ≤ 4 ∧ nI k = a_q ∧ (∀ o, o ≠ 136 → h_q o = h13 o) ∧ (∀ i, i < 140 + 3 * k ∨ 152 ≤ i → okR i (h_q 136 i)) ∧ (∀ i, i < 140 ∨ 152 ≤ i → h_q 136 i = 0) ∧ ∀ i, i < 3 * k → h_q 136 (140 + i) = fam i) (fun ⟨a_q, _, _⟩ => dif (nI 4) a_q) ?_ _ ⟨0, by omega, nI_0, fun _ _ => rfl, fun i hi => by rw [z6]; exact okR0 (by omega), fun i _ => by rw [z6], fun i hi => by omega⟩
  rintro ⟨y1, hx, gx⟩ K ⟨k, hk, rfl, Fx, Rx, Zx, fm⟩ hK
  unfold F_X11_init_112; dsimp only; unfold b_X11_init_112
  refine ⟨fun c => ?_, fun c => ?_⟩
  · rw [show (4 : Int32) = nI 4 from rfl, nI_leI (by omega) (by omega)] at c
    refine and_have (vp_in_iff.mpr (by decide)) (fun _ => ?_)
    intro ha ea
    refine and_have (vp_in_iff.mpr (by decide)) (fun _ => ?_)
    rw [cl1]
    intro hb eb hc ec
    have g0 : ∀ o, o ≠ 135 → o ≠ 146 → o ≠ 147 → hc o = hx o := fun o n1 n2 n3 => by
      rw [ec, hua_ne n1, eb, hu_ne n3, ea, hu_ne n2]
    refine hQ _ _ ⟨fun o ho => (g0 o (by omega) (by omega) (by omega)).trans ((Fx o (by omega)).trans (F o ho)), ?_, ?_, ?_, ?_, ?_, ?_, ?_⟩
    · rw [g0 136 (by decide) (by decide) (by decide)]
      exact fun i => Rx i (by omega)
    · intro i hi
      rw [g0 136 (by decide) (by decide) (by decide)]; exact Zx i (by omega)
    · rw [g0 138 (by decide) (by decide) (by decide), Fx 138 (by decide)]; exact z8
    · rw [ec, hua_ne (by decide), eb, hu_eq, pk_un (by decide), ea, hu_ne (by decide), Fx 147 (by decide), z7]
    · rw [ec, hua_ne (by decide), eb, hu_eq, pk_us]
    · intro i hi
      rw [g0 136 (by decide) (by decide) (by decide)]; exact fm i (by omega)
    · intro i hi
      rw [g0 136 (by decide) (by decide) (by decide)]; exact Zx i hi
  · have hd := dif_lt (a := nI 4) c
    rw [show (4 : Int32) = nI 4 from rfl, nI_leI (by omega) (by omega)] at c
    rw [show ((140 : Int32) + ((3 : Int32) * nI k)) + (1 : Int32) = nI (140 + 3 * k + 1) from ix3 140 3 k 1, show ((140 : Int32) + ((3 : Int32) * nI k)) + (2 : Int32) = nI (140 + 3 * k + 2) from ix3 140 3 k 2, show (140 : Int32) + ((3 : Int32) * nI k) = nI (140 + 3 * k) from ix2 140 3 k, nI_clamp (n := 140 + 3 * k) (by omega), nI_clamp (n := 140 + 3 * k + 1) (by omega), nI_clamp (n := 140 + 3 * k + 2) (by omega)]
    refine and_have (vp_in_nI (by omega) (by omega)) (fun _ => ?_)
    intro ha ea
    refine and_have (vp_in_nI (by omega) (by omega)) (fun _ => ?_)
    intro hb eb
    refine and_have (vp_in_nI (by omega) (by omega)) (fun _ => ?_)
    intro hc ec
    rintro _ rfl
    have ef : hc 136 = upd (upd (upd (hx 136) (140 + 3 * k) 1) (140 + 3 * k + 1) 1) (140 + 3 * k + 2) 100000 := by
      rw [ec, hu_eq, eb, hu_eq, ea, hu_eq]
    refine hK _ ⟨k + 1, by omega, (nI_1 k).symm, fun o n => by rw [ec, hu_ne n, eb, hu_ne n, ea, hu_ne n]; exact Fx o n, fun i hi => ?_, fun i hi => by rw [ef, pk_un (by omega), pk_un (by omega), pk_un (by omega)]; exact Zx i hi, fun i hi => ?_⟩ hd
    rotate_left
    · rw [ef]
      by_cases q : i < 3 * k
      · rw [pk_un (by omega), pk_un (by omega), pk_un (by omega)]; exact fm i q
      · obtain ⟨c, rfl⟩ : ∃ c, i = 3 * k + c := ⟨i - 3 * k, by omega⟩
        unfold fam
        have : c = 0 ∨ c = 1 ∨ c = 2 := by omega
        rcases this with rfl | rfl | rfl
        · rw [if_neg (by omega), pk_un (by omega), pk_un (by omega), ps_u (by omega)]
        · rw [if_neg (by omega), pk_un (by omega), ps_u (by omega)]
        · rw [if_pos (by omega), ps_u (by omega)]
    rw [ef]
    by_cases c2 : i = 140 + 3 * k + 2
    · subst c2
      rw [pk_us]
      exact okB (by omega) (fun _ => by omega)
    rw [pk_un c2]
    by_cases c1 : i = 140 + 3 * k + 1
    · subst c1
      rw [pk_us]
      exact okB (by omega) (fun _ => by unfold bd; decide)
    rw [pk_un c1]
    by_cases c0 : i = 140 + 3 * k
    · subst c0
      rw [pk_us]
      exact okB (by omega) (fun _ => by omega)
    rw [pk_un c0]
    exact Rx i (by omega)
theorem INV_start {h1 h2 : HI} (a : (∀ s, isS s → ∀ j, j < 12 → TT h1 (s + (1 + 2 * j)) (m0 j) (wJ j) (MJ j)) ∧ h1 76 = (fun _ => 0) ∧ (∀ i, i < 12 → h1 5 i = fam i) ∧ (∀ i, i < 4 → h1 23 i = 0) ∧ (∀ i, i < 2 → h1 17 i = 0) ∧ h1 77 9 = 1) (b : (∀ o, o < 135 → h2 o = h1 o) ∧ RG (h2 136) ∧ (∀ i, i < 9 → h2 136 i = 0) ∧ h2 138 = (fun _ => 0) ∧ h2 147 0 = 0 ∧ h2 147 1 = 1 ∧ (∀ i, i < 12 → h2 136 (140 + i) = fam i) ∧ ∀ i, i < 140 ∨ 152 ≤ i → h2 136 i = 0) : INV h2 := by
  obtain ⟨T, z, -⟩ := a
  obtain ⟨F, R, Z, K, w0, w1, -⟩ := b
  have T2 : ∀ s, isS s → ∀ j, j < 12 → TT h2 (s + (1 + 2 * j)) (m0 j) (wJ j) (MJ j) := fun s hs j hj => by
    have hs3 : s ≤ 51 := (by decide : ∀ s ∈ isSL, s ≤ 51) s hs
    exact (T s hs j hj).cg (F _ (by omega))
  refine ⟨fun s hs j hj => ⟨_, T2 s hs j hj⟩, R, ⟨0, 1, by omega, by omega, by rw [w0]; exact nI_0.symm, by rw [w1]; rfl⟩, ?_, ?_, ?_⟩
  · intro j hj
    refine ⟨m0 j, T2 1 isS1 j hj, ?_⟩
    unfold cOK m0
    by_cases c1 : j = 1 ∨ j = 10
    · rw [if_pos c1, if_pos c1]
    · rw [if_neg c1, if_neg c1]
      by_cases c2 : j = 7
      · rw [if_pos c2, if_pos c2]
      · rw [if_neg c2, if_neg c2]
        have : cpJ j < 9 := (by decide : ∀ j, j < 12 → ¬ (j = 1 ∨ j = 10) → ¬ j = 7 → cpJ j < 9) j hj c1 c2
        rw [Z _ this, nI_0]
  · unfold KF; rw [F 76 (by omega), z, K]; exact ⟨rfl, rfl⟩
  · intro i hi hn
    rw [K] at hn
    exact absurd rfl hn
