/-! WAY: true at the start, kept by what the calls change -/
def Z9 (h : HI) : Prop := (∀ k, k < 3001 → h 91 k = -1) ∧ (∀ k, k < 3001 → h 92 k = -1) ∧ h 96 = fun _ => 0
theorem Z9.cg {h h' : HI} (z : Z9 h) (e : ∀ q, 90 ≤ q → q ≤ 96 → h' q = h q) : Z9 h' := by
  unfold Z9
  rw [e 91 (by omega) (by omega), e 92 (by omega) (by omega), e 96 (by omega) (by omega)]; exact z
theorem Z9.wv {h : HI} (z : Z9 h) : WV h :=
  have w : ∀ a, a < 2 → (∀ k, k < 3001 → h (91 + a) k = -1) → WA h a (fun _ _ => False) := fun a _ y => ⟨0, fun _ => 0, by rw [z.2.2]; exact nI_0.symm, by omega, fun i hi => absurd hi (Nat.not_lt_zero i), fun i j hi => absurd hi (Nat.not_lt_zero i), fun t t1 t2 => by
    rw [y t (by omega)]
    exact ⟨.inl ⟨rfl, fun k x => x⟩, ⟨fun ⟨i, hi, _⟩ => absurd hi (Nat.not_lt_zero i), fun c => absurd rfl c⟩⟩⟩
  ⟨w 0 (by decide) z.1, w 1 (by decide) z.2.1⟩
theorem z_X3_init {h : HI} {g : HL} : w_X3_init h g (fun h' _ => JJ SGiv h h') := by
  unfold w_X3_init
  intro h1 e1 h2 e2 h3 e3 h4 e4 h5 e5
  exact ((((JJ.rf.hz e1 (fun q a b => by unfold SGiv; omega)).hua e2 (by unfold SGiv; omega)).hua e3 (by unfold SGiv; omega)).hua e4 (by unfold SGiv; omega)).hua e5 (by unfold SGiv; omega)
theorem z_X1_init {h : HI} {g : HL} (c : CI h) : w_X1_init h g (fun h' _ => JJ SBrk h h') := by
  unfold w_X1_init
  refine c_v (p_X0_init (o := 110)) ?_
  intro h1 g1 J1
  have K1 : JJ SBrk h h1 := J1.mo (fun q hq => by unfold SB at hq; unfold SBrk; omega)
  refine c_v (p_X0_init (o := 112)) ?_
  intro h2 g2 J2
  have K2 := K1.tr (J2.mo (fun q hq => by unfold SB at hq; unfold SBrk; omega))
  refine c_v (p_X0_init (o := 114)) ?_
  intro h3 g3 J3
  have K3 := K2.tr (J3.mo (fun q hq => by unfold SB at hq; unfold SBrk; omega))
  refine c_v (p_X0_init (o := 116)) ?_
  intro h4 g4 J4
  have K4 := K3.tr (J4.mo (fun q hq => by unfold SB at hq; unfold SBrk; omega))
  refine c_v (p_X0_set (c.jj K4 nSBrk) (by decide)) ?_
  intro h5 g5 J5
  have K5 := K4.tr (J5.mo (fun q hq => by unfold SB at hq; unfold SBrk; omega))
  intro h6 e6
  exact K5.hua e6 (by unfold SBrk; omega)
theorem z_X5_init {h : HI} {g : HL} : w_X5_init h g (fun h' _ => JJ SPln h h') := by
  unfold w_X5_init
  intro h1 e1 h2 e2 h3 e3 h4 e4 h5 e5 h6 e6 h7 e7 h8 e8
  exact (((((((JJ.rf.hua e1 (by unfold SPln; omega)).hua e2 (by unfold SPln; omega)).hua e3 (by unfold SPln; omega)).hua e4 (by unfold SPln; omega)).hua e5 (by unfold SPln; omega)).hua e6 (by unfold SPln; omega)).hz e7 (fun q a b => by unfold SPln; omega)).hua e8 (by unfold SPln; omega)
theorem z_X9_init {h : HI} {g : HL} (c : CI h) : w_X9_init h g (fun h' _ => JJ SC h h' ∧ Z9 h') := by
  unfold w_X9_init
  intro h1 e1 h2 e2 h3 e3
  have J3 : JJ SC h h3 := ((JJ.rf.hz e1 (fun q a b => by unfold SC; omega)).hz e2 (fun q a b => by unfold SC; omega)).hua e3 (by unfold SC; omega)
  refine c_v (p_J7_fill_53178 (c.jj J3 nSC) (o0 := 91) (by decide +kernel)) ?_
  rintro h4 g4 ⟨J4, z4⟩
  have J4' := J3.tr (J4.mo (fun q hq => by unfold SO at hq; unfold SC; omega))
  refine c_v (p_J7_fill_53178 (c.jj J4' nSC) (o0 := 92) (by decide +kernel)) ?_
  rintro h5 g5 ⟨J5, z5⟩
  have J5' := J4'.tr (J5.mo (fun q hq => by unfold SO at hq; unfold SC; omega))
  intro h6 e6
  refine ⟨J5'.hua e6 (by unfold SC; omega), fun k hk => ?_, fun k hk => ?_, ?_⟩
  · rw [e6, hua_ne (by decide), J5 91 (by unfold SO; omega)]; exact z4 k (Nat.lt_of_lt_of_le hk (by decide +kernel))
  · rw [e6, hua_ne (by decide)]; exact z5 k (Nat.lt_of_lt_of_le hk (by decide +kernel))
  · rw [e6, hua_ne (by decide), J5 96 (by unfold SO; omega), J4 96 (by unfold SO; omega), e3, hua_eq]
theorem z_X10_init {h : HI} {g : HL} {Q : HI → HL → Prop} (hQ : ∀ (h' : HI) (g' : HL), ((∀ s, isS s → ∀ j, j < 12 → TT h' (s + (1 + 2 * j)) (m0 j) (wJ j) (MJ j)) ∧ h' 76 = (fun _ => 0) ∧ (∀ i, i < 12 → h' 5 i = fam i) ∧ (∀ i, i < 4 → h' 23 i = 0) ∧ (∀ i, i < 2 → h' 17 i = 0) ∧ h' 77 9 = 1) → Z9 h' → Q h' g') : w_X10_init h g Q := by
  unfold w_X10_init
  refine c_v (p_X6_init isS1) ?_
  rintro h1 g1 ⟨J1, T1, fa, nd, od⟩
  refine c_v (p_X6_init (isS26 (i := 0) (by omega))) ?_
  rintro h2 g2 ⟨J2, T2, -⟩
  refine c_v (p_X6_init (isS26 (i := 1) (by omega))) ?_
  rintro h3 g3 ⟨J3, T3, -⟩
  have T : ∀ s, isS s → ∀ j, j < 12 → TT h3 (s + (1 + 2 * j)) (m0 j) (wJ j) (MJ j) := by
    intro s hs j hj
    have hs3 : s = 1 ∨ s = 26 ∨ s = 51 := (by decide : ∀ s ∈ isSL, s = 1 ∨ s = 26 ∨ s = 51) s hs
    rcases hs3 with rfl | rfl | rfl
    · exact (T1 j hj).cg ((J3 _ (by unfold SHP; omega)).trans (J2 _ (by unfold SHP; omega)))
    · exact (T2 j hj).cg (J3 _ (by unfold SHP; omega))
    · exact T3 j hj
  intro h4 e4
  have T4 : ∀ s, isS s → ∀ j, j < 12 → TT h4 (s + (1 + 2 * j)) (m0 j) (wJ j) (MJ j) := by
    intro s hs j hj
    have hs3 : s ≤ 51 := (by decide : ∀ s ∈ isSL, s ≤ 51) s hs
    exact (T s hs j hj).cg (by rw [e4, hua_ne (by omega)])
  have c4 : CI h4 := CJ.ci (fun s hs j hj => ⟨_, T4 s hs j hj⟩)
  have z4 : h4 76 = fun _ => 0 := by rw [e4, hua_eq]
  refine c_v p_X4_init ?_
  rintro h5 g5 ⟨J5, f5⟩
  refine c_v p_X7_init ?_
  intro h6 g6 J6
  have u : ∀ q, SC q → SCa q := fun q hq => by unfold SC at hq; unfold SCa; omega
  have K6 : h6 77 9 = 1 := by rw [J6 77 (by unfold SC; omega)]; exact f5
  have J6 := J5.tr (J6.mo u)
  refine c_v p_X2_init ?_
  intro h7 g7 J7
  have K7 : h7 77 9 = 1 := by rw [J7 77 (by unfold SC; omega)]; exact K6
  have J7 := J6.tr (J7.mo u)
  refine c_v (z_X9_init (c4.jj J7 nSCa)) ?_
  rintro h8 g8 ⟨J8, Z8⟩
  have K8 : h8 77 9 = 1 := by rw [J8 77 (by unfold SC; omega)]; exact K7
  have J8 := J7.tr (J8.mo u)
  refine c_v z_X3_init ?_
  intro h9 g9 J9
  have K9 : h9 77 9 = 1 := by rw [J9 77 (by unfold SGiv; omega)]; exact K8
  have Z9 := Z8.cg (h' := h9) (fun q q1 q2 => J9 q (by unfold SGiv; omega))
  have J9 := J8.tr (J9.mo (fun q hq => by unfold SGiv at hq; unfold SCa; omega))
  refine c_v (z_X1_init (c4.jj J9 nSCa)) ?_
  intro h10 g10 J10
  have K10 : h10 77 9 = 1 := by rw [J10 77 (by unfold SBrk; omega)]; exact K9
  have Z10 := Z9.cg (h' := h10) (fun q q1 q2 => J10 q (by unfold SBrk; omega))
  have J10 := J9.tr (J10.mo (fun q hq => by unfold SBrk at hq; unfold SCa; omega))
  refine c_v z_X5_init ?_
  intro h11 g11 J11
  have K11 : h11 77 9 = 1 := by rw [J11 77 (by unfold SPln; omega)]; exact K10
  have Z11 := Z10.cg (h' := h11) (fun q q1 q2 => J11 q (by unfold SPln; omega))
  have J11 := J10.tr (J11.mo (fun q hq => by unfold SPln at hq; unfold SCa; omega))
  intro h12 e12
  have low : ∀ q, 2 ≤ q → q ≤ 25 → h12 q = h1 q := fun q h1' h2' => by
    rw [e12, hua_ne (by omega), J11 q (by unfold SCa; omega), e4, hua_ne (by omega), J3 q (by unfold SHP; omega), J2 q (by unfold SHP; omega)]
  refine hQ _ _ ⟨fun s hs j hj => ?_, ?_, fun i hi => by rw [low 5 (by omega) (by omega)]; exact fa i hi, fun i hi => by rw [low 23 (by omega) (by omega)]; exact nd i hi, fun i hi => by rw [low 17 (by omega) (by omega)]; exact od i hi, by rw [e12, hua_ne (by decide)]; exact K11⟩ (Z11.cg (fun q q1 q2 => by rw [e12, hua_ne (by omega)]))
  · have hs3 : s ≤ 51 := (by decide : ∀ s ∈ isSL, s ≤ 51) s hs
    exact (T4 s hs j hj).cg (by rw [e12, hua_ne (by omega)]; exact J11 _ (by unfold SCa; omega))
  · rw [e12, hua_ne (by decide), J11 76 (by unfold SCa; omega)]; exact z4
theorem z_X10_withParts {h : HI} {g : HL} (hC : CI h) {x1 : Int64}   : w_X10_withParts x1 h g (fun r h' g' => JJ (SSz) h h') := by
  unfold w_X10_withParts
  have hJ : JJ (SSz) h h := JJ.rf
  refine lpE_intro (fun ⟨x3_q, x5_q, h_q, g_q⟩ => JJ (SSz) h h_q ∧ True) (fun ⟨x3_q, x5_q, h_q, g_q⟩ => dif (h 2 3) x5_q) ?_ _ ⟨hJ, trivial⟩
  rintro ⟨x3_1, x5_1, h_1, g_1⟩ K1 ⟨hJ, -⟩ hK1
  unfold F_X10_withParts_5; dsimp only; unfold b_X10_withParts_5
  refine c_i (p_rowsJ hJ nSSz gs_2) ?_
  rintro _ _ _ ⟨rfl, rfl, rfl⟩
  refine ⟨fun c => ?_, fun c => ?_⟩
  · skip
    exact hJ
  · skip
    refine c_l (p_X10_withRow (hC.jj hJ nSSz) gs_2) ?_
    rintro r_31 _ _ ⟨rfl, rfl⟩
    refine c_v (p_X7_find (hC.jj hJ nSSz) ) ?_
    rintro h_41 g_41 hJ2
    have hJ := hJ.tr (hJ2)
    refine lpE_intro (fun ⟨x3_q, x5_q, x6_q, h_q, g_q⟩ => JJ (SSz) h h_q ∧ x5_1 = x5_q ∧ True) (fun ⟨x3_q, x5_q, x6_q, h_q, g_q⟩ => dif (3 : Int32) x6_q) ?_ _ ⟨hJ, rfl, trivial⟩
    rintro ⟨x3_2, x5_2, x6_2, h_2, g_2⟩ K2 ⟨hJ, rfl, -⟩ hK2
    unfold F_X10_withParts_47; dsimp only; unfold b_X10_withParts_47
    refine ⟨fun c => ?_, fun c => ?_⟩
    · skip
      refine c_i (p_X1_reached (hC.jj hJ nSSz) ) ?_
      rintro r_87 _ _ ⟨rfl, rfl⟩
      rintro _ rfl
      rintro _ rfl
      exact hK1 _ ⟨hJ, trivial⟩ (dif_lt (by with_reducible assumption))
    · skip
      refine c_i (p_X7_answer (hC.jj hJ nSSz) ) ?_
      rintro r_64 _ _ ⟨rfl, rfl⟩
      rintro _ rfl
      rintro _ rfl
      exact hK2 _ ⟨hJ, rfl, trivial⟩ (dif_lt (by with_reducible assumption))
theorem z_X10_digest {h : HI} {g : HL} (hC : CI h)    : w_X10_digest h g (fun r h' g' => JJ (SSz) h h') := by
  unfold w_X10_digest
  have hJ : JJ (SSz) h h := JJ.rf
  refine lpE_intro (fun ⟨x1_q, x3_q, h_q, g_q⟩ => JJ (SSz) h h_q ∧ True) (fun ⟨x1_q, x3_q, h_q, g_q⟩ => dif (10 : Int32) x3_q) ?_ _ ⟨hJ, trivial⟩
  rintro ⟨x1_1, x3_1, h_1, g_1⟩ K1 ⟨hJ, -⟩ hK1
  unfold F_X10_digest_6; dsimp only; unfold b_X10_digest_6
  refine ⟨fun c => ?_, fun c => ?_⟩
  · skip
    refine c_l (z_X10_withParts (hC.jj hJ nSSz) ) ?_
    rintro r_33 h_33 g_33 hJ2
    have hJ := hJ.tr (hJ2)
    refine c_l (p_X10_withTable (hC.jj hJ nSSz) gs_4) ?_
    rintro r_46 _ _ ⟨rfl, rfl⟩
    refine c_l (p_X10_withTable (hC.jj hJ nSSz) gs_6) ?_
    rintro r_60 _ _ ⟨rfl, rfl⟩
    refine c_l (p_X10_withChains (hC.jj hJ nSSz) ) ?_
    rintro r_66 _ _ ⟨rfl, rfl⟩
    refine c_l (p_X10_withTable (hC.jj hJ nSSz) gs_10) ?_
    rintro r_79 _ _ ⟨rfl, rfl⟩
    refine c_l (p_X10_withTable (hC.jj hJ nSSz) gs_12) ?_
    rintro r_92 _ _ ⟨rfl, rfl⟩
    refine c_l (p_X10_withTable (hC.jj hJ nSSz) gs_14) ?_
    rintro r_105 _ _ ⟨rfl, rfl⟩
    refine c_l (p_X10_withTable (hC.jj hJ nSSz) gs_16) ?_
    rintro r_118 _ _ ⟨rfl, rfl⟩
    refine c_l (p_X10_withTable (hC.jj hJ nSSz) gs_18) ?_
    rintro r_131 _ _ ⟨rfl, rfl⟩
    refine c_l (p_X10_withTable (hC.jj hJ nSSz) gs_20) ?_
    rintro r_144 _ _ ⟨rfl, rfl⟩
    refine c_l (p_X10_withTable (hC.jj hJ nSSz) gs_22) ?_
    rintro r_157 _ _ ⟨rfl, rfl⟩
    refine c_l (p_X10_withTable (hC.jj hJ nSSz) gs_24) ?_
    rintro r_170 _ _ ⟨rfl, rfl⟩
    exact hJ
  · skip
    refine c_i (p_X10_count (hC.jj hJ nSSz) ) ?_
    rintro r_19 _ _ ⟨rfl, rfl⟩
    rintro _ rfl
    rintro _ rfl
    exact hK1 _ ⟨hJ, trivial⟩ (dif_lt (by with_reducible assumption))
theorem wv_add {C : Prop} {h h' : HI} {r : Int32} {o m w M k : Nat} {row : Nat → Int32} (L : WV h) (a : ADc C h r h' o m w M k row) (ho : o ≤ 24) : WV h' := by
  rcases a with ⟨-, -, rfl⟩ | ⟨-, -, -, rfl⟩ | ⟨-, -, -, J, -⟩
  · exact L
  · exact L
  · exact L.cg (fun q q1 q2 => J q (by unfold SM; omega))
theorem wv_put {A : Prop} {h h' : HI} {o m w M : Nat} (L : WV h) (a : PTc A h h' o m w M) (ho : o ≤ 24) : WV h' := L.cg (fun q q1 q2 => a.2.1 q (by unfold SM; omega))
theorem wv_jj {S : Nat → Prop} {h h' : HI} (L : WV h) (J : JJ S h h') (n : ∀ q, 90 ≤ q → q ≤ 96 → ¬ S q) : WV h' := L.cg (fun q q1 q2 => J q (n q q1 q2))
theorem wv_ref {h h' : HI} (L : WV h) (e : ∀ o, 90 ≤ o → o ≤ 96 → h' o = h o) : WV h' := L.cg e
theorem wv_ask {h h' : HI} (L : WV h) (b : KJ SRef h h') : WV h' := L.cg (fun o h1 h2 => funext fun k => b o k (by unfold SRef; omega))
def INV4 (h : HI) : Prop := INV3 h ∧ WV h
