theorem cb157 {h : HI} {Q : HI → HL → Prop} {K : Int32 → Int32 → Int32 → HI → HL → Prop} {j : Nat} (hj : j < 12) {y1 y2 x6 s0 : Int32} {h5 : HI} {g5 : HL} (hJ : JJ SPln h h5) (hT : h5 118 10 = h 118 10) (hb : ∀ k : Nat, k < j → b128 (h5 121 k)) (hK : ∀ (h' : HI) (g' : HL), JJ SPln h h' → h' 118 10 = h 118 10 → (∀ k : Nat, k < j + 1 → b128 (h' 121 k)) → K y1 y2 (nI (j + 1)) h' g') : j_X5_chooseBits_157 Q K y1 y2 (nI j) x6 s0 h5 g5 := by
  unfold j_X5_chooseBits_157
  refine and_have (vp_in_nI (by omega) (by omega)) (fun _ => ?_)
  intro h6 e6
  have hJ6 := hJ.hu e6 (by unfold SPln; omega)
  have hT6 : h6 118 10 = h 118 10 := by rw [e6, hu_ne (by decide)]; exact hT
  have hb6 : ∀ k : Nat, k < j + 1 → b128 (h6 121 k) := by
    intro k hk
    rw [e6, hu_eq, nI_clamp (by omega)]
    by_cases ek : k = j
    · subst ek; rw [pk_us]; exact ⟨0, by omega, nI_0.symm⟩
    · rw [pk_un ek]; exact hb k (by omega)
  have done : j_X5_chooseBits_259 Q K y1 y2 (nI j) h6 g5 := by
    unfold j_X5_chooseBits_259
    rintro _ rfl
    rw [nI_1]
    exact hK _ _ hJ6 hT6 hb6
  refine ⟨fun _ => done, fun _ => ⟨fun _ => done, fun _ => ?_⟩⟩
  refine c_w (fun c c' => ?_) (fun c => ?_)
  · refine ⟨fun _ => ?_, fun c => absI c⟩
    refine and_have (vp_in_nI (by omega) (by omega)) (fun _ => ?_)
    intro h7 e7
    obtain ⟨l, hl, el⟩ := nI_of (Int32.not_lt.mpr c)
    have hl7 : l ≤ 7 := by
      rw [el, show (7 : Int32) = nI 7 from rfl, nI_leI (by omega) (by omega)] at c'
      exact c'
    have hv : h7 121 j = nI (2 ^ l) := by
      rw [e7, hu_eq, nI_clamp (by omega), pk_us, el]; exact shl_t l (by omega)
    have p2 : 2 ^ l ≤ 128 := by
      have : 2 ^ l ≤ 2 ^ 7 := Nat.pow_le_pow_right (by omega) (by omega)
      omega
    have hJ7 := hJ6.hu e7 (by unfold SPln; omega)
    have hT7 : h7 118 10 = h 118 10 := by rw [e7, hu_ne (by decide)]; exact hT6
    have hb7 : ∀ k : Nat, k < j + 1 → b128 (h7 121 k) := by
      intro k hk
      by_cases ek : k = j
      · subst ek; rw [hv]; exact ⟨2 ^ l, p2, rfl⟩
      · rw [e7, hu_eq, nI_clamp (by omega), pk_un ek]; exact hb6 k hk
    refine lpE_intro (fun q => ∃ i : Nat, i ≤ 2 ^ l ∧ y1 = q.1 ∧ y2 = q.2.1 ∧ nI j = q.2.2.1 ∧ nI i = q.2.2.2.1 ∧ JJ SPln h q.2.2.2.2.1 ∧ q.2.2.2.2.1 118 10 = h 118 10 ∧ q.2.2.2.2.1 121 = h7 121) (fun q => dif (nI (2 ^ l)) q.2.2.2.1) ?_ _ ⟨0, Nat.zero_le _, rfl, rfl, rfl, nI_0, hJ7, hT7, rfl⟩
    rintro ⟨z1, z2, z3, z8, h8, g8⟩ K3 ⟨i, hi, rfl, rfl, rfl, rfl, hJ8, hT8, h121⟩ hK3
    unfold F_X5_chooseBits_207; dsimp only; unfold b_X5_chooseBits_207
    dsimp only at h121 hT8 hJ8
    have ev : h8 121 (nI j).toNatClampNeg = nI (2 ^ l) := by rw [nI_clamp (by omega), h121]; exact hv
    rw [ev]
    refine and_have (vp_in_nI (by omega) (by omega)) (fun _ => ⟨fun c => ?_, fun c => ?_⟩)
    · intro h9 e9
      unfold j_X5_chooseBits_259
      rintro _ rfl
      rw [nI_1]
      exact hK h9 g8 (hJ8.hu e9 (by unfold SPln; omega)) (by rw [e9, hu_eq, pk_un (by decide)]; exact hT8) (fun k hk => by rw [e9, hu_ne (by decide), h121]; exact hb7 k hk)
    · have hd := dif_lt c
      rw [nI_leI (by omega) (by omega)] at c
      have h9 : i ||| 2 ^ l < 2 ^ 8 := Nat.or_lt_two_pow (by omega) (by omega)
      refine and_have (vp_in_nI (by omega) (by omega)) (fun _ => and_have (vp_in_nI (by omega) (by omega)) (fun _ => and_have (by rw [nI_or]; exact vp_in_nI (by omega) (by omega)) (fun _ => ?_)))
      intro h9 e9
      rintro _ rfl
      exact hK3 _ ⟨i + 1, by omega, rfl, rfl, rfl, (nI_1 i).symm, hJ8.hu e9 (by unfold SPln; omega), by dsimp only; rw [e9, hu_ne (by decide)]; exact hT8, by dsimp only; rw [e9, hu_ne (by decide)]; exact h121⟩ hd
  · exact ⟨fun c => absurd rfl c, fun _ => done⟩
theorem p_X5_chooseBits {h : HI} {g : HL} (hC : CI h) : w_X5_chooseBits h g (fun h' _ => JJ SPln h h' ∧ h' 118 10 = h 118 10 ∧ ∀ k : Nat, k < 12 → b128 (h' 121 k)) := by
  unfold w_X5_chooseBits
  refine lpE_intro (fun q => h = q.2.2.2.1) (fun q => dif (h 20 3) q.2.2.1) ?_ _ rfl
  rintro ⟨a1, a2, a3, h1, g1⟩ K1 e hK1
  obtain rfl : h = h1 := e
  unfold F_X5_chooseBits_6; dsimp only; unfold b_X5_chooseBits_6
  refine c_i p_rows ?_; rintro _ _ _ ⟨rfl, rfl, rfl⟩
  refine ⟨fun c => ?_, fun c => ?_⟩
  · intro h2 e2
    have hJ : JJ SPln h h2 := JJ.rf.hu e2 (by unfold SPln; omega)
    have hT : h2 118 10 = h 118 10 := by rw [e2, hu_eq, pk_un (by decide)]
    refine and_have (vp_in_iff.mpr (by decide)) (fun _ => ?_)
    intro h3 e3
    have hJ := hJ.hu e3 (by unfold SPln; omega)
    have hT : h3 118 10 = h 118 10 := by rw [e3, hu_ne (by decide)]; exact hT
    refine lpE_intro (fun q => ∃ j : Nat, j ≤ 12 ∧ nI j = q.2.2.1 ∧ JJ SPln h q.2.2.2.1 ∧ q.2.2.2.1 118 10 = h 118 10 ∧ ∀ k : Nat, k < j → b128 (q.2.2.2.1 121 k)) (fun q => dif 12 q.2.2.1) ?_ _ ⟨0, by omega, nI_0, hJ, hT, fun k hk => absurd hk (Nat.not_lt_zero k)⟩
    clear hJ hT
    rintro ⟨b1, b2, b3, h4, g4⟩ K2 ⟨j, hj, rfl, hJ, hT, hb⟩ hK2
    dsimp only at hJ hT hb
    unfold F_X5_chooseBits_74; dsimp only; unfold b_X5_chooseBits_74
    refine ⟨fun c => ?_, fun c => ?_⟩
    · rw [show (12 : Int32) = nI 12 from rfl, nI_leI (by omega) (by omega)] at c
      exact ⟨hJ, hT, fun k hk => hb k (by omega)⟩
    · have hd := dif_lt c
      rw [nI_1] at hd
      rw [show (12 : Int32) = nI 12 from rfl, nI_leI (by omega) (by omega)] at c
      have key : ∀ x6 s0 : Int32, j_X5_chooseBits_157 (fun h' _ => JJ SPln h h' ∧ h' 118 10 = h 118 10 ∧ ∀ k : Nat, k < 12 → b128 (h' 121 k)) (fun x1 x2 x3 h g => K2 (x1, x2, x3, h, g)) b1 b2 (nI j) x6 s0 h4 g4 := fun x6 s0 =>
        cb157 (by omega) hJ hT hb (fun h' g' hJ' hT' hb' => hK2 _ ⟨j + 1, by omega, rfl, hJ', hT', hb'⟩ hd)
      have k156 : ∀ x6 : Int32, j_X5_chooseBits_156 (fun h' _ => JJ SPln h h' ∧ h' 118 10 = h 118 10 ∧ ∀ k : Nat, k < 12 → b128 (h' 121 k)) (fun x1 x2 x3 h g => K2 (x1, x2, x3, h, g)) b1 b2 (nI j) x6 h4 g4 := fun x6 => by
        unfold j_X5_chooseBits_156; exact key _ _
      have k124 : ∀ x5 s0 : Int32, j_X5_chooseBits_124 (fun h' _ => JJ SPln h h' ∧ h' 118 10 = h 118 10 ∧ ∀ k : Nat, k < 12 → b128 (h' 121 k)) (fun x1 x2 x3 h g => K2 (x1, x2, x3, h, g)) b1 b2 (nI j) x5 s0 h4 g4 := fun x5 s0 => by
        unfold j_X5_chooseBits_124
        refine ⟨fun _ => k156 _, fun _ => ?_⟩
        refine c_i (p_atJ hC hJ nSPln gs_22) ?_; rintro _ _ _ ⟨rfl, rfl, rfl⟩
        exact ⟨fun _ => k156 _, fun _ => key _ _⟩
      have k123 : ∀ x5 : Int32, j_X5_chooseBits_123 (fun h' _ => JJ SPln h h' ∧ h' 118 10 = h 118 10 ∧ ∀ k : Nat, k < 12 → b128 (h' 121 k)) (fun x1 x2 x3 h g => K2 (x1, x2, x3, h, g)) b1 b2 (nI j) x5 h4 g4 := fun x5 => by
        unfold j_X5_chooseBits_123; exact k124 _ _
      rintro _ rfl
      rintro _ rfl
      refine c_i (p_rowsJ hJ nSPln gs_20) ?_; rintro _ _ _ ⟨rfl, rfl, rfl⟩
      refine ⟨fun _ => k123 _, fun _ => ?_⟩
      refine c_z (p_X5_knows (hC.jj hJ nSPln)) ?_; rintro r _ _ ⟨rfl, rfl⟩
      exact ⟨fun _ => k123 _, fun _ => k124 _ _⟩
  · refine c_i (p_at hC gs_20) ?_; rintro _ _ _ ⟨rfl, rfl, rfl⟩
    rintro _ rfl
    refine c_i (p_at hC gs_20) ?_; rintro _ _ _ ⟨rfl, rfl, rfl⟩
    rintro _ rfl
    rintro _ rfl
    exact hK1 _ rfl (dif_lt c)
theorem p_X5_chooseLessons {h : HI} {g : HL} (hC : CI h) (hb : ∀ k : Nat, k < 12 → b128 (h 121 k)) : w_X5_chooseLessons h g (fun h' _ => JJ SPln h h' ∧ h' 118 10 = h 118 10 ∧ PL h') := by
  unfold w_X5_chooseLessons
  intro h1 e1
  refine lpE_intro (fun q => JJ SPln h q.2.1 ∧ q.2.1 118 10 = h 118 10 ∧ q.2.1 121 = h 121 ∧ PL q.2.1) (fun q => dil (47 : Int32) q.1) ?_ _ ⟨JJ.rf.hu e1 (by unfold SPln; omega), by dsimp only; rw [e1, hu_eq, pk_un (by decide)], by dsimp only; rw [e1, hu_ne (by decide)], 0, by omega, by dsimp only; rw [e1, hu_eq, pk_us, nI_0], fun i hi => absurd hi (Nat.not_lt_zero i)⟩
  rintro ⟨a1, h2, g2⟩ K ⟨hJ, hT, h121, hP⟩ hK
  dsimp only at hJ hT h121 hP
  unfold F_X5_chooseLessons_7; dsimp only; unfold b_X5_chooseLessons_7
  refine ⟨fun c => ⟨hJ, hT, hP⟩, fun c => ?_⟩
  have hd := dil_lt c (by decide)
  have stay : j_X5_chooseLessons_129 (fun h' _ => JJ SPln h h' ∧ h' 118 10 = h 118 10 ∧ PL h') (fun x1 h g => K (x1, h, g)) a1 h2 g2 := by
    unfold j_X5_chooseLessons_129
    rintro _ rfl
    exact hK _ ⟨hJ, hT, h121, hP⟩ hd
  rintro _ rfl
  rintro _ rfl
  rintro x4 e4
  refine ⟨fun _ => stay, fun _ => ?_⟩
  refine c_h (fun d d' => ?_) (fun d => ?_)
  · refine ⟨fun c => absI c, fun _ => ?_⟩
    refine c_w (fun d d' => ?_) (fun d => ?_)
    · refine ⟨fun _ => ?_, fun c => absurd c (by decide)⟩
      have h12 : vp_in x4 12 := vinw d d' (by decide) (by decide)
      refine and_have h12 (fun _ => ⟨fun _ => stay, fun _ => ?_⟩)
      refine c_w (fun d d' => ?_) (fun d => ?_)
      · refine ⟨fun c => absI c, fun _ => ?_⟩
        obtain ⟨n, hn, en, hp⟩ := hP
        have hn2 : n ≤ 15 := by
          rw [en, show (15 : Int32) = nI 15 from rfl, nI_leI (by omega) (by omega)] at d'
          exact d'
        have h16 : vp_in (h2 118 8) 16 := vinw d d' (by decide) (by decide)
        refine and_have h16 (fun _ => ?_)
        intro h3 e3
        have e38 : h3 118 = h2 118 := by rw [e3, hu_ne (by decide)]
        refine and_have h12 (fun _ => and_have (by rw [e38]; exact h16) (fun _ => ?_))
        intro h4 e4'
        intro h5 e5
        unfold j_X5_chooseLessons_129
        rintro _ rfl
        have hJ5 := ((hJ.hu e3 (by unfold SPln; omega)).hu e4' (by unfold SPln; omega)).hu e5 (by unfold SPln; omega)
        have e48 : h4 118 = h2 118 := by rw [e4', hu_ne (by decide)]; exact e38
        have e5a : h5 121 = h2 121 := by rw [e5, hu_ne (by decide), e4', hu_ne (by decide), e3, hu_ne (by decide)]
        refine hK _ ⟨hJ5, by dsimp only; rw [e5, hu_eq, pk_un (by decide), e48]; exact hT, by dsimp only; rw [e5a]; exact h121, n + 1, by omega, ?_, ?_⟩ hd
        · dsimp only
          rw [e5, hu_eq, pk_us, e48, en, nI_1]
        · intro i hi
          dsimp only
          have e5b : h5 120 = upd (h3 120) n (h3 121 x4.toNatClampNeg) := by
            rw [e5, hu_ne (by decide), e4', hu_eq, e38, en, nI_clamp (by omega)]
          rw [e5b]
          by_cases ei : i = n
          · subst ei
            rw [pk_us, e3, hu_ne (by decide), h121]
            exact hb _ (vp_lt h12)
          · rw [pk_un ei, e3, hu_ne (by decide)]
            exact hp i (by omega)
      · exact ⟨fun _ => stay, fun c => absN c⟩
    · exact ⟨fun c => absurd rfl c, fun _ => stay⟩
  · exact ⟨fun _ => stay, fun c => absN c⟩
theorem PL.cg {h h' : HI} (P : PL h) (e1 : h' 118 = h 118) (e2 : h' 120 = h 120) : PL h' := by
  unfold PL; rw [e1, e2]; exact P
