/-! TAKING, ALONG of the reference -/
theorem p_X11_givenTo {h : HI} {g : HL} {n : Nat} (hn : n ≤ 6) : w_X11_givenTo (nI n) h g (fun _ h' g' => h = h' ∧ g = g') := by
  unfold w_X11_givenTo
  refine lpE_intro (fun q => ∃ k : Nat, k ≤ n ∧ nI n = q.1 ∧ nI k = q.2.2.1 ∧ h = q.2.2.2.1 ∧ g = q.2.2.2.2) (fun q => dif (nI n) q.2.2.1) ?_ _ ⟨0, Nat.zero_le _, rfl, nI_0, rfl, rfl⟩
  rintro ⟨y1, y2, y3, h1, g1⟩ K ⟨k, hk, rfl, rfl, rfl, rfl⟩ hK
  unfold F_X11_givenTo_4; dsimp only; unfold b_X11_givenTo_4
  refine ⟨fun _ => ⟨rfl, rfl⟩, fun c => ?_⟩
  have hd := dif_lt c
  rw [nI_leI (by omega) (by omega)] at c
  have v : vp_in (nI k) 6 := vp_in_nI (by omega) (by omega)
  have j : ∀ a b : Int32, j_X11_givenTo_32 (fun _ h' g' => h = h' ∧ g = g') (fun x1 x2 x3 h g => K (x1, x2, x3, h, g)) (nI n) (nI k) a b h g := by
    intro a b
    unfold j_X11_givenTo_32
    rintro _ rfl
    rintro _ rfl
    exact hK _ ⟨k + 1, by omega, rfl, (nI_1 k).symm, rfl, rfl⟩ hd
  exact ⟨v, fun _ => ⟨v, j _ _⟩, fun _ => j _ _⟩
theorem p_X11_yearsOf {h : HI} {g : HL} (hR : RI (h 136)) {x1 : Int32} : w_X11_yearsOf x1 h g (fun _ h' g' => h = h' ∧ g = g') := by
  obtain ⟨n, hn, hn2, en⟩ := bd_nI hR.c5
  unfold w_X11_yearsOf
  refine lpE_intro (fun q => ∃ k : Nat, k ≤ n ∧ nI k = q.2.2.2.2.1 ∧ h = q.2.2.2.2.2.1 ∧ g = q.2.2.2.2.2.2) (fun q => dif (nI n) q.2.2.2.2.1) ?_ _ ⟨0, Nat.zero_le _, nI_0, rfl, rfl⟩
  rintro ⟨y1, y2, y3, y4, y5, h1, g1⟩ K ⟨k, hk, rfl, rfl, rfl⟩ hK
  unfold F_X11_yearsOf_10; dsimp only; unfold b_X11_yearsOf_10
  rw [en]
  refine and_have (vp_in_iff.mpr (by decide)) (fun _ => ⟨fun _ => ⟨fun _ => ⟨rfl, rfl⟩, fun _ => ⟨rfl, rfl⟩⟩, fun c => ?_⟩)
  have hd := dif_lt c
  rw [nI_leI (by omega) (by omega)] at c
  have v2 : vp_in (((710 : Int32) + ((3 : Int32) * nI k)) + (2 : Int32)) 887 := by
    rw [show ((710 : Int32) + ((3 : Int32) * nI k)) + (2 : Int32) = nI (710 + 3 * k + 2) from ix3 710 3 k 2]
    exact vp_in_nI (by omega) (by omega)
  have v1 : vp_in (((710 : Int32) + ((3 : Int32) * nI k)) + (1 : Int32)) 887 := by
    rw [show ((710 : Int32) + ((3 : Int32) * nI k)) + (1 : Int32) = nI (710 + 3 * k + 1) from ix3 710 3 k 1]
    exact vp_in_nI (by omega) (by omega)
  refine and_have v2 (fun _ => ?_)
  intro x6 _
  have j125 : ∀ a b c s0 s1 : Int32, j_X11_yearsOf_125 (fun _ h' g' => h = h' ∧ g = g') (fun x1 x2 x3 x4 x5 h g => K (x1, x2, x3, x4, x5, h, g)) a b c (nI k) s0 s1 h g := by
    intro a b c s0 s1
    unfold j_X11_yearsOf_125
    rintro _ rfl
    rintro _ rfl
    exact hK _ ⟨k + 1, by omega, (nI_1 k).symm, rfl, rfl⟩ hd
  have j124 : ∀ a b c s0 : Int32, j_X11_yearsOf_124 (fun _ h' g' => h = h' ∧ g = g') (fun x1 x2 x3 x4 x5 h g => K (x1, x2, x3, x4, x5, h, g)) a b c (nI k) s0 h g := by
    intro a b c s0
    unfold j_X11_yearsOf_124; exact j125 _ _ _ _ _
  have j102 : ∀ a b c d e s0 s1 : Int32, j_X11_yearsOf_102 (fun _ h' g' => h = h' ∧ g = g') (fun x1 x2 x3 x4 x5 h g => K (x1, x2, x3, x4, x5, h, g)) a b c (nI k) d e s0 s1 h g := by
    intro a b c d e s0 s1
    unfold j_X11_yearsOf_102
    rintro _ rfl
    exact ⟨fun _ => j124 _ _ _ _, fun _ => ⟨fun _ => j124 _ _ _ _, fun _ => j125 _ _ _ _ _⟩⟩
  have j101 : ∀ a b c d e s0 : Int32, j_X11_yearsOf_101 (fun _ h' g' => h = h' ∧ g = g') (fun x1 x2 x3 x4 x5 h g => K (x1, x2, x3, x4, x5, h, g)) a b c (nI k) d e s0 h g := by
    intro a b c d e s0
    unfold j_X11_yearsOf_101; exact j102 _ _ _ _ _ _ _
  have j80 : ∀ a b c d e s0 s1 : Int32, j_X11_yearsOf_80 (fun _ h' g' => h = h' ∧ g = g') (fun x1 x2 x3 x4 x5 h g => K (x1, x2, x3, x4, x5, h, g)) a b c (nI k) d e s0 s1 h g := by
    intro a b c d e s0 s1
    unfold j_X11_yearsOf_80
    rintro _ rfl
    exact ⟨fun _ => j101 _ _ _ _ _ _, fun _ => ⟨fun _ => j101 _ _ _ _ _ _, fun _ => j102 _ _ _ _ _ _ _⟩⟩
  have j53 : ∀ a b c d e s0 : Int32, j_X11_yearsOf_53 (fun _ h' g' => h = h' ∧ g = g') (fun x1 x2 x3 x4 x5 h g => K (x1, x2, x3, x4, x5, h, g)) a b c d (nI k) e s0 h g := by
    intro a b c d e s0
    unfold j_X11_yearsOf_53
    exact ⟨fun _ => j80 _ _ _ _ _ _ _, fun _ => ⟨v1, j80 _ _ _ _ _ _ _⟩⟩
  exact ⟨fun _ => j53 _ _ _ _ _ _, fun _ => j53 _ _ _ _ _ _⟩
/-- how much of the search is left -/
def ms (f : Nat → Int32) (S : Nat) : Nat → Nat
  | 0 => 0
  | j + 1 => ms f S j + ((S : Int) - (f j).toInt).toNat * 13 ^ (5 - j)
theorem ms_s (f : Nat → Int32) (S j : Nat) : ms f S (j + 1) = ms f S j + ((S : Int) - (f j).toInt).toNat * 13 ^ (5 - j) := rfl
theorem ms_cg {f f' : Nat → Int32} {S : Nat} : ∀ {n : Nat}, (∀ k, k < n → f' k = f k) → ms f' S n = ms f S n
  | 0, _ => rfl
  | n + 1, e => by unfold ms; rw [e n (by omega), ms_cg (fun k hk => e k (by omega))]
theorem p13 {m : Nat} (h : m < 5) : 13 ^ (5 - m) = 13 * 13 ^ (4 - m) := by
  rw [show 5 - m = (4 - m) + 1 by omega, Nat.pow_succ, Nat.mul_comm]
theorem p_X11_mayGet {h : HI} {g : HL} {m : Nat} (hm : m < 6) {x2 : Int32} (hb : h 144 m = -1 ∨ bd 0 8 (h 144 m)) : w_X11_mayGet (nI m) x2 h g (fun _ h' g' => h = h' ∧ g = g') := by
  have j45 : j_X11_mayGet_45 (fun _ h' g' => h = h' ∧ g = g') h g := by
    unfold j_X11_mayGet_45; exact ⟨rfl, rfl⟩
  unfold w_X11_mayGet
  rw [nI_clamp (by omega)]
  refine and_have (vp_in_nI (by omega) (by omega)) (fun _ => ?_)
  rintro _ rfl
  refine ⟨fun _ => j45, fun c => ?_⟩
  rcases hb with e | hb
  · exact absurd e c
  · refine ⟨vp_bd (bd_add (bd_lit (n := 710) (by decide)) (bd_mul (n := 3) (by decide) hb (by decide) (by decide) (by decide)) (by decide) (by decide)) (by decide) (by decide), ?_, fun _ => ⟨rfl, rfl⟩, fun _ => ⟨fun _ => ⟨rfl, rfl⟩, fun _ => j45⟩⟩
    rw [show (704 : Int32) + nI m = nI (704 + m) from nI_add 704 m]
    exact vp_in_nI (by omega) (by omega)
set_option maxHeartbeats 2000000 in
theorem p_X11_findTaking {h : HI} {g : HL} (hR : RI (h 136)) : w_X11_findTaking h g (fun _ h' _ => KJ STk h h') := by
  obtain ⟨n, hn, hn2, en⟩ := bd_nI hR.c4
  obtain ⟨S, hS, hS2, eS⟩ := bd_nI hR.c5
  unfold w_X11_findTaking
  refine and_have (vp_in_iff.mpr (by decide)) (fun _ => ?_)
  rintro _ rfl
  rw [en]
  have j26 : ∀ (best : Int32) (mm : Nat), (n = 0 ∧ mm = 0 ∨ 1 ≤ n ∧ mm = 1) → j_X11_findTaking_26 (fun _ h' _ => KJ STk h h') (nI n) best (nI mm - 1) h g := by
    intro best mm hmm
    unfold j_X11_findTaking_26
    rw [cl0]
    refine and_have (vp_in_iff.mpr (by decide)) (fun _ => ?_)
    intro h1 e1
    refine lpE_intro (fun q => ∃ mm : Nat, mm ≤ n ∧ nI n = q.1 ∧ nI mm - 1 = q.2.2.1 ∧ KJ STk h q.2.2.2.1 ∧ ∀ j, j < mm → bd (-2) ((S : Int) - 1) (q.2.2.2.1 144 j)) (fun q => ms (q.2.2.2.1 144) S (prd q.2.2.1)) ?_ _ ⟨mm, by omega, rfl, rfl, KJ.rf.hu e1 (by unfold STk; omega), ?_⟩
    · clear e1
      rintro ⟨y1, y2, y3, h2, g2⟩ K ⟨mm, hm, rfl, rfl, J, hb⟩ hK
      dsimp only at J hb
      unfold F_X11_findTaking_35; dsimp only; unfold b_X11_findTaking_35
      refine ⟨fun _ => J, fun c => ?_⟩
      obtain ⟨m, rfl⟩ : ∃ m, mm = m + 1 := ⟨mm - 1, by
        have : mm ≠ 0 := fun q => c (by rw [q]; decide)
        omega⟩
      have ep : ∀ k : Nat, k ≤ 7 → prd (nI k) = k + 1 := by
        intro k hk
        unfold prd
        rw [nI_toInt (by omega)]; omega
      rw [nI_pred] at hK ⊢
      rw [nI_clamp (n := m) (by omega)]
      have v : vp_in (nI m) 6 := vp_in_nI (by omega) (by omega)
      refine and_have v (fun _ => and_have v (fun _ => ?_))
      intro h3 e3
      have hbm := hb m (by omega)
      have i1 : (h2 144 m + 1).toInt = (h2 144 m).toInt + 1 := by
        rw [Int32.toInt_add, show (1 : Int32).toInt = 1 by decide]
        unfold bd at hbm
        exact bm (by omega) (by omega)
      have J3 : KJ STk h h3 := J.hu e3 (by unfold STk; omega)
      have e3m : h3 144 m = h2 144 m + 1 := by rw [e3, hu_eq, pk_us]
      have e3o : ∀ k, k ≠ m → h3 144 k = h2 144 k := fun k hk => by rw [e3, hu_eq, pk_un hk]
      have eS3 : h3 136 (5 : Int32).toNatClampNeg = nI S := by rw [J3 136 _ (by unfold STk; omega)]; exact eS
      have R3 : RI (h3 136) := hR.kj J3 (fun k => by unfold STk; omega)
      have m0 : ms (h3 144) S m = ms (h2 144) S m := ms_cg (fun k hk => e3o k (by omega))
      have μ0 : ms (h2 144) S (m + 1) = ms (h2 144) S m + ((S : Int) - (h2 144 m).toInt).toNat * 13 ^ (5 - m) := rfl
      have P13 : 0 < 13 ^ (5 - m) := Nat.pow_pos (by omega)
      rw [eS3, e3m]
      rw [ep m (by omega), μ0] at hK
      refine and_have v (fun _ => and_have (vp_in_iff.mpr (by decide)) (fun _ => ⟨fun cl => ?_, fun cl => ?_⟩))
      · -- stays below S
        have hlt : (h2 144 m).toInt + 1 < S := by
          rw [Int32.lt_iff_toInt_lt, i1, nI_toInt hS2] at cl; exact cl
        have hb3 : ∀ j, j < m + 1 → bd (-2) ((S : Int) - 1) (h3 144 j) := by
          intro j hj
          by_cases ej : j = m
          · subst ej
            rw [e3m]
            unfold bd at hbm ⊢
            omega
          · rw [e3o j ej]; exact hb j (by omega)
        have dec1 : ((S : Int) - (h3 144 m).toInt).toNat + 1 = ((S : Int) - (h2 144 m).toInt).toNat := by
          rw [e3m, i1]; omega
        have stay : ∀ (b : Int32) (h4 : HI) (g4 : HL), KJ STk h h4 → (∀ j, j < m + 1 → h4 144 j = h3 144 j) → K (nI n, b, nI m, h4, g4) := by
          intro b h4 g4 J4 e4
          refine hK _ ⟨m + 1, hm, rfl, (nI_pred m), J4, fun j hj => by dsimp only; rw [e4 j hj]; exact hb3 j hj⟩ ?_
          dsimp only
          rw [ep m (by omega), ms_s, e4 m (by omega), ms_cg (f := h3 144) (fun k hk => e4 k (by omega)), m0, ← dec1, Nat.add_mul, Nat.one_mul]
          omega
        refine c_i (p_X11_givenTo (by omega)) ?_
        rintro r1 _ _ ⟨rfl, rfl⟩
        refine c_z (p_X11_mayGet (by omega) ?_) ?_
        · rw [e3m]
          by_cases q : h2 144 m + 1 = -1
          · exact .inl q
          · right
            have q2 : (h2 144 m + 1).toInt ≠ -1 := fun e => q (Int32.toInt_inj.mp (by rw [e]; decide))
            unfold bd at hbm ⊢
            rw [i1] at q2 ⊢
            omega
        · rintro r2 _ _ ⟨rfl, rfl⟩
          refine ⟨fun _ => stay _ _ _ J3 (fun _ _ => rfl), fun _ => ?_⟩
          rw [nI_1]
          refine ⟨fun _ => ?_, fun cp => ?_⟩
          · refine c_i (p_X11_givenTo (by omega)) ?_
            rintro r3 _ _ ⟨rfl, rfl⟩
            refine c_i (p_X11_yearsOf R3) ?_
            rintro r4 _ _ ⟨rfl, rfl⟩
            have j153 : ∀ (b : Int32) (h4 : HI) (g4 : HL), KJ STk h h4 → h4 144 = h3 144 → j_X11_findTaking_153 (fun _ h' _ => KJ STk h h') (fun x1 x2 x3 h g => K (x1, x2, x3, h, g)) (nI n) b (nI m) h4 g4 := by
              intro b h4 g4 J4 e4
              unfold j_X11_findTaking_153
              exact stay _ _ _ J4 (fun j _ => by rw [e4])
            refine ⟨fun _ => j153 _ _ _ J3 rfl, fun _ => ?_⟩
            refine lpE_intro (fun q => ∃ k : Nat, k ≤ n ∧ nI n = q.1 ∧ nI m = q.2.2.1 ∧ nI k = q.2.2.2.1 ∧ KJ STk h q.2.2.2.2.1 ∧ q.2.2.2.2.1 144 = h3 144) (fun q => dif (nI n) q.2.2.2.1) ?_ _ ⟨0, Nat.zero_le _, rfl, rfl, nI_0, J3, rfl⟩
            rintro ⟨z1, z2, z3, z5, h4, g4⟩ K2 ⟨k, hk, rfl, rfl, rfl, J4, e4⟩ hK2
            dsimp only at J4 e4
            unfold F_X11_findTaking_127; dsimp only; unfold b_X11_findTaking_127
            refine ⟨fun _ => j153 _ _ _ J4 e4, fun ck => ?_⟩
            have hd := dif_lt ck
            rw [nI_leI (by omega) (by omega)] at ck
            have vk : vp_in (nI k) 6 := vp_in_nI (by omega) (by omega)
            refine and_have vk (fun _ => and_have vk (fun _ => ?_))
            intro h5 e5
            rintro _ rfl
            exact hK2 _ ⟨k + 1, by omega, rfl, rfl, (nI_1 k).symm, J4.hu e5 (by unfold STk; omega), by dsimp only; rw [e5, hu_ne (by decide)]; exact e4⟩ hd
          · rw [nI_leI (by omega) (by omega)] at cp
            rintro _ rfl
            rw [nI_clamp (by omega)]
            refine and_have (vp_in_nI (by omega) (by omega)) (fun _ => ?_)
            intro h4 e4
            have e4p : h4 144 (m + 1) = -2 := by rw [e4, hu_eq, pk_us]
            have e4o : ∀ k, k < m + 1 → h4 144 k = h3 144 k := fun k hk => by rw [e4, hu_eq, pk_un (by omega)]
            refine hK _ ⟨m + 2, by omega, rfl, nI_pred (m + 1), J3.hu e4 (by unfold STk; omega), ?_⟩ ?_
            · intro j hj
              dsimp only
              by_cases ej : j = m + 1
              · subst ej
                rw [e4p]
                unfold bd
                rw [show (-2 : Int32).toInt = -2 by decide]
                omega
              · rw [e4o j (by omega)]; exact hb3 j (by omega)
            · dsimp only
              rw [ep (m + 1) (by omega), ms_s, ms_s, e4p, e4o m (by omega), ms_cg (f := h3 144) (fun k hk => e4o k (by omega)), m0, ← dec1, Nat.add_mul, Nat.one_mul, show (-2 : Int32).toInt = -2 by decide, p13 (m := m) (by omega), show 5 - (m + 1) = 4 - m by omega]
              have q1 : ((S : Int) - -2).toNat * 13 ^ (4 - m) ≤ 12 * 13 ^ (4 - m) := Nat.mul_le_mul_right _ (by omega)
              have q2 : 0 < 13 ^ (4 - m) := Nat.pow_pos (by omega)
              omega
      · -- one back
        rintro _ rfl
        have tm : 1 ≤ ((S : Int) - (h2 144 m).toInt).toNat := by
          unfold bd at hbm; omega
        have q1 : 1 * 13 ^ (5 - m) ≤ ((S : Int) - (h2 144 m).toInt).toNat * 13 ^ (5 - m) := Nat.mul_le_mul_right _ tm
        have em : nI m + (-1) = nI m - 1 := by
          cases m with
          | zero => decide
          | succ i => rw [nI_pred, pk_m1]
        refine hK _ ⟨m, by omega, rfl, em.symm, J3, fun j hj => by dsimp only; rw [e3o j (by omega)]; exact hb j (by omega)⟩ ?_
        dsimp only
        have pm : prd (nI m + (-1)) = m := by
          rw [em]
          cases m with
          | zero => decide
          | succ i => rw [nI_pred, ep i (by omega)]
        rw [pm, m0]
        omega
    · intro j hj
      dsimp only
      have : j = 0 := by omega
      subst this
      rw [e1, hu_eq, pk_us]
      unfold bd
      rw [show (-2 : Int32).toInt = -2 by decide]
      omega
  have j16 : ∀ best : Int32, j_X11_findTaking_16 (fun _ h' _ => KJ STk h h') (nI n) best h g := by
    intro best
    unfold j_X11_findTaking_16
    refine ⟨fun c => ?_, fun c => ?_⟩
    · have : n ≠ 0 := fun q => c (by rw [q]; exact nI_0)
      exact j26 best 1 (by omega)
    · have : n = 0 := (nI_eq (by omega) (by omega)).mp (c.trans nI_0.symm)
      exact j26 best 0 (by omega)
  exact ⟨fun _ => j16 _, fun _ => j16 _⟩
