/-! FITTED, ALONG, DIGEST of the reference -/
theorem bd_nIp {a b : Int} {x : Int32} (h : bd a b x) (h0 : 0 ≤ a) : ∃ j : Nat, (j : Int) ≤ b ∧ a ≤ (j : Int) ∧ j < 2 ^ 31 ∧ x = nI j := by
  obtain ⟨j, h1, h2, rfl⟩ := bd_nI (h.mo h0 (Int.le_refl b))
  refine ⟨j, h1, ?_, h2, rfl⟩
  have := h.1
  rw [nI_toInt h2] at this
  exact this
theorem p_X11_likes {h : HI} {g : HL} (hR : RI (h 136)) {x1 x2 : Int32} : w_X11_likes x1 x2 h g (fun _ h' _ => BF 2 h h' ∧ ∃ W v, W ≤ 41 ∧ BG h' 2 W v) := by
  obtain ⟨n, hn, hn2, en⟩ := bd_nI hR.c6
  unfold w_X11_likes
  refine c_v (p_X11_sets (r := 2) (v := 1) (by omega) (.inl rfl)) ?_
  rintro h1 _ ⟨rfl, F1, G1⟩
  refine lpE_intro (fun ⟨_, _, c_q, h_q, _⟩ => ∃ k W v : Nat, k ≤ n ∧ nI k = c_q ∧ BF 2 h h_q ∧ W ≤ k + 1 ∧ BG h_q 2 W v) (fun ⟨_, _, c_q, _, _⟩ => dif (nI n) c_q) ?_ _ ⟨0, 1, 1, Nat.zero_le _, nI_0, F1, by omega, G1⟩
  rintro ⟨y1, y2, y3, h2, g2⟩ K ⟨k, W, v, hk, rfl, F2, hW, G2⟩ hK
  unfold F_X11_likes_8; dsimp only; unfold b_X11_likes_8
  rw [F2.1 136 (by decide) (by decide), en]
  refine and_have (vp_in_iff.mpr (by decide)) (fun _ => ⟨fun c => ⟨F2, W, v, by omega, G2⟩, fun c => ?_⟩)
  have hd := dif_lt c
  rw [nI_leI (by omega) (by omega)] at c
  have i0 : vp_in ((737 : Int32) + ((2 : Int32) * nI k)) 887 := by
    rw [show (737 : Int32) + ((2 : Int32) * nI k) = nI (737 + 2 * k) from ix2 737 2 k]; exact vp_in_nI (by omega) (by omega)
  have i1 : vp_in (((737 : Int32) + ((2 : Int32) * nI k)) + (1 : Int32)) 887 := by
    rw [show ((737 : Int32) + ((2 : Int32) * nI k)) + (1 : Int32) = nI (737 + 2 * k + 1) from ix3 737 2 k 1]; exact vp_in_nI (by omega) (by omega)
  refine and_have i0 (fun _ => ?_)
  intro x4 e4
  refine c_in3 (fun q => ?_) (fun q => ?_)
  · refine ⟨fun _ => ?_, fun c => absI c⟩
    obtain ⟨o, o1, o2, o3, rfl⟩ := bd_nIp (q.mo (c := 1) (d := 999) (by decide) (by decide)) (by omega)
    clear e4
    have j83 : ∀ B : Nat, B ≤ 1000 → j_X11_likes_83 (fun _ h' _ => BF 2 h h' ∧ ∃ W v, W ≤ 41 ∧ BG h' 2 W v) (fun x1 x2 x3 h g => K (x1, x2, x3, h, g)) y1 y2 (nI k) (2 : Int32) (nI B) h2 g2 := by
      intro B hB
      unfold j_X11_likes_83
      refine c_v (p_X11_times (r := 2) (by omega) hB G2 (by omega)) ?_
      rintro h3 g3 ⟨F3, W', hW', G3⟩
      rintro _ rfl
      exact hK _ ⟨k + 1, W', _, by omega, (nI_1 k).symm, F2.tr F3, by omega, G3⟩ hd
    refine and_have i1 (fun _ => ⟨fun _ => ?_, fun _ => j83 o (by omega)⟩)
    rw [show (1000 : Int32) = nI 1000 from rfl, pk_sub (by omega)]
    exact j83 _ (by omega)
  · exact ⟨fun c => absurd rfl c, fun _ => ⟨F2, W, v, by omega, G2⟩⟩
theorem p_X11_fitted {h : HI} {g : HL} (hR : RI (h 136)) : w_X11_fitted h g (fun _ h' _ => KJ SBg h h' ∧ h' 147 0 = h 147 0 ∧ h' 147 1 = h 147 1) := by
  have fr : ∀ {a b : HI} {r : Nat}, BF r a b → 2 ≤ r → KJ SBg h a ∧ a 147 0 = h 147 0 ∧ a 147 1 = h 147 1 → KJ SBg h b ∧ b 147 0 = h 147 0 ∧ b 147 1 = h 147 1 := fun F hr x =>
    ⟨x.1.tr F.kj, (F.2.1 0 (by omega)).trans x.2.1, (F.2.1 1 (by omega)).trans x.2.2⟩
  unfold w_X11_fitted
  refine lpE_intro (fun ⟨a_q, b_q, h_q, _⟩ => ∃ k : Nat, k ≤ 100 ∧ nI k = b_q ∧ (KJ SBg h h_q ∧ h_q 147 0 = h 147 0 ∧ h_q 147 1 = h 147 1) ∧ (a_q = -1 ∨ ∃ W v, W ≤ 41 ∧ BG h_q 4 W v)) (fun ⟨_, b_q, _, _⟩ => dif (nI 100) b_q) ?_ _ ⟨0, by omega, nI_0, ⟨KJ.rf, rfl, rfl⟩, .inl rfl⟩
  rintro ⟨y1, y2, h1, g1⟩ K ⟨k, hk, rfl, J1, hb⟩ hK
  unfold F_X11_fitted_4; dsimp only; unfold b_X11_fitted_4
  refine ⟨fun _ => J1, fun c => ?_⟩
  have hd := dif_lt (a := nI 100) c
  rw [show (100 : Int32) = nI 100 from rfl, nI_leI (by omega) (by omega)] at c
  have R1 : RI (h1 136) := hR.kj J1.1 (fun k => by unfold SBg; omega)
  refine c_z (p_X11_likes R1) ?_
  rintro r h2 g2 ⟨F2, W, v, hW, G2⟩
  have J2 := fr F2 (by omega) J1
  have hb2 : y1 = -1 ∨ ∃ W v, W ≤ 41 ∧ BG h2 4 W v := hb.elim .inl (fun ⟨W', v', a, b⟩ => .inr ⟨W', v', a, b.fr F2 (by omega) (by omega)⟩)
  have j91 : ∀ (a : Int32) (h3 : HI) (g3 : HL), (KJ SBg h h3 ∧ h3 147 0 = h 147 0 ∧ h3 147 1 = h 147 1) → (a = -1 ∨ ∃ W v, W ≤ 41 ∧ BG h3 4 W v) → j_X11_fitted_91 (fun _ h' _ => KJ SBg h h' ∧ h' 147 0 = h 147 0 ∧ h' 147 1 = h 147 1) (fun x1 x2 h g => K (x1, x2, h, g)) a (nI k) h3 g3 := by
    intro a h3 g3 J3 hb3
    unfold j_X11_fitted_91
    rintro _ rfl
    exact hK _ ⟨k + 1, by omega, (nI_1 k).symm, J3, hb3⟩ hd
  have j39 : j_X11_fitted_39 (fun _ h' _ => KJ SBg h h' ∧ h' 147 0 = h 147 0 ∧ h' 147 1 = h 147 1) (fun x1 x2 h g => K (x1, x2, h, g)) (nI k) h2 g2 := by
    unfold j_X11_fitted_39
    rw [cl2, cl4, G2.1]
    refine and_have (vp_in_iff.mpr (by decide)) (fun _ => and_have (vp_in_iff.mpr (by decide)) (fun _ => ?_))
    intro h3 e3
    have F3 : BF 4 h2 h3 := ⟨fun o n m => by rw [e3, hu_ne m], fun q n => by rw [e3, hu_eq, pk_un n], fun j _ => by rw [e3, hu_ne (by decide)]⟩
    have e34 : h3 147 4 = nI W := by rw [e3, hu_eq, pk_us]
    have e3b : h3 146 = h2 146 := by rw [e3, hu_ne (by decide)]
    have G3 := G2.fr F3 (by omega) (by omega)
    refine lpE_intro (fun ⟨a_q, b_q, c_q, h_q, _⟩ => ∃ j : Nat, j ≤ W ∧ nI k = b_q ∧ nI j = c_q ∧ BF 4 h2 h_q ∧ h_q 147 4 = nI W ∧ ∀ i, i < j → h_q 146 (320 + i) = h2 146 (160 + i)) (fun ⟨_, _, c_q, _, _⟩ => dif (nI W) c_q) ?_ _ ⟨0, Nat.zero_le _, rfl, nI_0, F3, e34, fun i hi => by omega⟩
    rintro ⟨z1, z2, z3, h4, g4⟩ K2 ⟨j, hj, rfl, rfl, F4, e44, hi⟩ hK2
    unfold F_X11_fitted_55; dsimp only; unfold b_X11_fitted_55
    rw [cl2, (F4.2.1 2 (by omega)).trans G2.1]
    refine and_have (vp_in_iff.mpr (by decide)) (fun _ => ⟨fun cj => ?_, fun cj => ?_⟩)
    · have ej : j = W := by
        rw [nI_leI (by omega) (by omega)] at cj; omega
      subst ej
      refine j91 _ h4 g4 (fr F4 (by omega) J2) (.inr ⟨j, v, hW, e44, ?_, ?_, ?_⟩)
      · exact fun i h => by
          obtain ⟨d, hd1, hd2⟩ := G2.2.1 i h
          exact ⟨d, hd1, (hi i h).trans hd2⟩
      · rw [← G2.2.2.1]
        have : ∀ m, m ≤ j → vl (h4 146) (80 * 4) m = vl (h2 146) (80 * 2) m := by
          intro m hm
          induction m with
          | zero => rfl
          | succ m ih =>
            unfold vl
            rw [ih (by omega), show 80 * 4 + m = 320 + m by omega, hi m (by omega)]
        exact this j (Nat.le_refl _)
      · intro V hV
        have := G2.2.2.2 V hV
        rw [show 80 * 4 + V = 320 + V by omega, hi V (by omega)]; exact this
    · have hd2 := dif_lt cj
      rw [nI_leI (by omega) (by omega)] at cj
      rw [show (160 : Int32) + nI j = nI (160 + j) from nI_add 160 j, show (320 : Int32) + nI j = nI (320 + j) from nI_add 320 j, nI_clamp (by omega), nI_clamp (by omega)]
      refine and_have (vp_in_nI (by omega) (by omega)) (fun _ => and_have (vp_in_nI (by omega) (by omega)) (fun _ => ?_))
      intro h5 e5
      rintro _ rfl
      refine hK2 _ ⟨j + 1, by omega, rfl, (nI_1 j).symm, F4.tr ⟨fun o n m => by rw [e5, hu_ne n], fun q n => by rw [e5, hu_ne (by decide)], fun i h => by rw [e5, hu_eq, pk_un (by omega)]⟩, by rw [e5, hu_ne (by decide)]; exact e44, ?_⟩ hd2
      intro i hi2
      rw [e5, hu_eq]
      by_cases ei : i = j
      · subst ei
        rw [pk_us]
        exact F4.2.2 _ (by omega)
      · rw [pk_un (by omega)]; exact hi i (by omega)
  refine ⟨fun _ => j91 _ _ _ J2 hb2, fun _ => ⟨fun _ => j39, fun c1 => ?_⟩⟩
  rcases hb2 with e | ⟨W4, v4, hW4, G4⟩
  · exact absurd e c1
  · refine c_i (p_X11_against (r := 2) (s := 4) (by omega) (by omega) G2 G4 (by omega) (by omega)) ?_
    rintro _ _ _ ⟨rfl, rfl, rfl⟩
    exact ⟨fun _ => j91 _ _ _ J2 (.inr ⟨W4, v4, hW4, G4⟩), fun _ => j39⟩
theorem p_X11_limbs {h : HI} {g : HL} {x1 : Int32} : w_X11_limbs x1 h g (fun _ h' g' => h = h' ∧ g = g') := by
  unfold w_X11_limbs
  refine c_in3 (fun q => ⟨fun c => absI c, fun _ => ⟨vp_bd q (by decide) (by decide), rfl, rfl⟩⟩) (fun q => ⟨fun _ => ⟨rfl, rfl⟩, fun c => absN c⟩)
theorem p_X11_limb {h : HI} {g : HL} (hW : WI h) {x1 x2 : Int32} : w_X11_limb x1 x2 h g (fun _ h' g' => h = h' ∧ g = g') := by
  unfold w_X11_limb
  refine c_in3 (fun q => ⟨fun c => absI c, fun _ => ⟨fun c0 => ?_, fun _ => ⟨rfl, rfl⟩⟩⟩) (fun q => ⟨fun _ => ⟨rfl, rfl⟩, fun c => absN c⟩)
  obtain ⟨j, hj, hj2, rfl⟩ := bd_nI (q.mo (c := 0) (d := 1) (by decide) (by decide))
  obtain ⟨i, hi, rfl⟩ := nI_of (Int32.not_lt.mpr c0)
  obtain ⟨a, b, ha, hb, ea, eb⟩ := hW
  rw [nI_clamp hj2]
  have hw : ∃ w : Nat, w ≤ 70 ∧ h 147 j = nI w := by
    by_cases e : j = 0
    · subst e; exact ⟨a, ha, ea⟩
    · have : j = 1 := by omega
      subst this; exact ⟨b, hb, eb⟩
  obtain ⟨w, hw1, hw2⟩ := hw
  rw [hw2]
  refine and_have (vp_in_nI (by omega) (by omega)) (fun _ => ⟨fun _ => ⟨rfl, rfl⟩, fun c => ?_⟩)
  rw [nI_leI (by omega) (by omega)] at c
  refine ⟨?_, rfl, rfl⟩
  rw [m80, nI_add]
  exact vp_in_nI (by omega) (by omega)
theorem shl24 : ∀ j : Nat, j < 24 → (1 : Int32) <<< (nI j &&& 31) = nI (2 ^ j) := by decide +kernel
theorem p24 {j : Nat} (h : j < 24) : 2 ^ j < 2 ^ 24 := Nat.pow_lt_pow_right (by omega) h
theorem p_X11_alongOf {h : HI} {g : HL} (hR : RI (h 136)) {x1 : Int32} : w_X11_alongOf x1 h g (fun _ h' g' => h = h' ∧ g = g') := by
  obtain ⟨n, hn, hn2, en⟩ := bd_nI hR.c0
  unfold w_X11_alongOf
  refine lpE_intro (fun ⟨a_q, b_q, c_q, h_q, g_q⟩ => ∃ s : Nat, s < 2 ^ 24 ∧ x1 = a_q ∧ nI s = b_q ∧ h = h_q ∧ g = g_q) (fun ⟨_, b_q, c_q, _, _⟩ => if c_q = 0 then 0 else 2 ^ 24 - b_q.toNatClampNeg) ?_ _ ⟨0, by omega, rfl, nI_0, rfl, rfl⟩
  rintro ⟨y1, y2, y3, h1, g1⟩ K ⟨s, hs, rfl, rfl, rfl, rfl⟩ hK
  unfold F_X11_alongOf_4; dsimp only; unfold b_X11_alongOf_4
  refine ⟨fun _ => ⟨rfl, rfl⟩, fun c3 => ?_⟩
  refine lpE_intro (fun ⟨a_q, b_q, c_q, d_q, h_q, g_q⟩ => ∃ k t : Nat, k ≤ n ∧ t < 2 ^ 24 ∧ s ≤ t ∧ x1 = a_q ∧ nI s = b_q ∧ nI t = c_q ∧ nI k = d_q ∧ h = h_q ∧ g = g_q) (fun ⟨_, _, _, d_q, _, _⟩ => dif (nI n) d_q) ?_ _ ⟨0, s, by omega, hs, Nat.le_refl _, rfl, rfl, rfl, nI_0, rfl, rfl⟩
  rintro ⟨z1, z2, z4, z5, h2, g2⟩ K2 ⟨k, t, hk, ht, hst, rfl, rfl, rfl, rfl, rfl, rfl⟩ hK2
  unfold F_X11_alongOf_14; dsimp only; unfold b_X11_alongOf_14
  rw [en]
  refine and_have (vp_in_iff.mpr (by decide)) (fun _ => ⟨fun c => ⟨fun ce => ?_, fun ce => ?_⟩, fun c => ?_⟩)
  · unfold j_X11_alongOf_71
    refine hK _ ⟨t, ht, rfl, rfl, rfl, rfl⟩ ?_
    dsimp only
    rw [if_pos rfl, if_neg c3, nI_clamp (by omega)]
    omega
  · unfold j_X11_alongOf_71
    refine hK _ ⟨t, ht, rfl, rfl, rfl, rfl⟩ ?_
    dsimp only
    rw [if_neg (by decide), if_neg c3, nI_clamp (by omega), nI_clamp (by omega)]
    have : t ≠ s := fun e => ce (by rw [e])
    omega
  · have hd := dif_lt c
    rw [nI_leI (by omega) (by omega)] at c
    refine c_i (p_X11_partOf hR (bd_of (n := k) (by omega) (by omega) (by omega)) ((bd_lit (n := 4) (by decide)).mo (by decide) (by decide))) ?_
    rintro _ _ _ ⟨rfl, rfl, rfl⟩
    have j51 : ∀ b : Nat, b < 2 ^ 24 → j_X11_alongOf_51 (fun _ h' g' => h = h' ∧ g = g') (fun x1 x2 x3 h g => K (x1, x2, x3, h, g)) (fun x1 x2 x4 x5 h g => K2 (x1, x2, x4, x5, h, g)) x1 (nI s) (nI k) (nI t) (nI b) h g := by
      intro b hb
      unfold j_X11_alongOf_51
      rw [nI_or]
      rintro _ rfl
      rintro _ rfl
      exact hK2 _ ⟨k + 1, t ||| b, by omega, Nat.or_lt_two_pow ht hb, Nat.le_trans hst Nat.left_le_or, rfl, rfl, rfl, (nI_1 k).symm, rfl, rfl⟩ hd
    refine ⟨fun _ => j51 0 (by omega), fun _ => ?_⟩
    rw [shl24 k (by omega)]
    exact j51 _ (p24 (by omega))
theorem p_X11_taking {h : HI} {g : HL} (hR : RI (h 136)) {x1 : Int32} : w_X11_taking x1 h g (fun _ h' _ => KJ STk h h') := by
  have j17 : (x1 = -1 ∨ bd 0 5 x1) → j_X11_taking_17 (fun _ h' _ => KJ STk h h') x1 h g := by
    intro hx
    unfold j_X11_taking_17
    refine c_i (p_X11_findTaking hR) ?_
    rintro r h1 g1 J1
    refine ⟨fun c => ?_, fun _ => J1⟩
    rcases hx with e | hx
    · exact absurd e c
    · exact ⟨vp_bd hx (by decide) (by decide), J1⟩
  unfold w_X11_taking
  refine ⟨fun c => j17 (.inl c), fun _ => ?_⟩
  refine c_is (vp_in_iff.mpr (by decide)) hR.c4 (by decide) (fun q q1 => ⟨fun _ => j17 (.inr (q.mo (by decide) (by decide))), fun c => absI c⟩) (fun q => ⟨fun c => absurd rfl c, fun _ => KJ.rf⟩)
theorem p_X11_mixed {h : HI} {g : HL} {x1 : Int64} {a n : Nat} (ha : a + n ≤ 887) : w_X11_mixed x1 (nI a) (nI n) h g (fun _ h' g' => h = h' ∧ g = g') := by
  unfold w_X11_mixed
  refine lpE_intro (fun ⟨a_q, b_q, _, d_q, h_q, g_q⟩ => ∃ k : Nat, k ≤ n ∧ nI a = a_q ∧ nI n = b_q ∧ nI k = d_q ∧ h = h_q ∧ g = g_q) (fun ⟨_, _, _, d_q, _, _⟩ => dif (nI n) d_q) ?_ _ ⟨0, Nat.zero_le _, rfl, rfl, nI_0, rfl, rfl⟩
  rintro ⟨y1, y2, y3, y4, h1, g1⟩ K ⟨k, hk, rfl, rfl, rfl, rfl, rfl⟩ hK
  unfold F_X11_mixed_6; dsimp only; unfold b_X11_mixed_6
  refine ⟨fun _ => ⟨rfl, rfl⟩, fun c => ?_⟩
  have hd := dif_lt c
  rw [nI_leI (by omega) (by omega)] at c
  refine and_have (by rw [nI_add]; exact vp_in_nI (by omega) (by omega)) (fun _ => ?_)
  rintro _ rfl
  rintro _ rfl
  exact hK _ ⟨k + 1, by omega, rfl, rfl, (nI_1 k).symm, rfl, rfl⟩ hd
