section
-- 34.take
/-! TAKING, ALONG of the reference -/
theorem bd_ge {a b : Int} {x : Int32} (h : bd a b x) (h0 : 0 ≤ a) : ¬ x < 0 := fun q => by
  rw [Int32.lt_iff_toInt_lt, show (0 : Int32).toInt = 0 by decide] at q
  unfold bd at h; omega
theorem p_X11_givenTo {h : HI} {g : HL} {n : Nat} (hn : n ≤ 6) : w_X11_givenTo (nI n) h g (fun _ h' g' => h = h' ∧ g = g') := by
  unfold w_X11_givenTo
  refine lpE_intro (fun q => ∃ k : Nat, k ≤ n ∧ nI n = q.1 ∧ nI k = q.2.2.1 ∧ h = q.2.2.2.1 ∧ g = q.2.2.2.2) (fun q => dif (nI n) q.2.2.1) ?_ _ ⟨0, Nat.zero_le _, rfl, nI_0, rfl, rfl⟩
  rintro ⟨y1, y2, y3, h1, g1⟩ K ⟨k, hk, rfl, rfl, rfl, rfl⟩ hK
  unfold F_X11_givenTo_4; dsimp only; unfold b_X11_givenTo_4
  refine ⟨fun _ => ⟨rfl, rfl⟩, fun c => ?_⟩
  have hd := dif_lt c
  rw [nI_leI (by omega) (by omega)] at c
  have v : vp_in (nI k) 6 := vp_in_nI (by omega) (by omega)
  have j : ∀ a b : Int32, j_X11_givenTo_32 (fun _ h' g' => h = h' ∧ g = g') (fun x1 x2 x3 h g => K (x1, x2, x3, h, g)) (nI n) (nI k) a b h g := by
    intro a b
    unfold j_X11_givenTo_32
    rintro _ rfl
    rintro _ rfl
    exact hK _ ⟨k + 1, by omega, rfl, (nI_1 k).symm, rfl, rfl⟩ hd
  exact ⟨v, fun _ => ⟨v, j _ _⟩, fun _ => j _ _⟩
theorem p_X11_yearsOf {h : HI} {g : HL} (hR : RI (h 136)) {x1 : Int32} : w_X11_yearsOf x1 h g (fun _ h' g' => h = h' ∧ g = g') := by
  obtain ⟨n, hn, hn2, en⟩ := bd_nI hR.c5
  unfold w_X11_yearsOf
  refine lpE_intro (fun q => ∃ k : Nat, k ≤ n ∧ nI k = q.2.2.2.2.1 ∧ h = q.2.2.2.2.2.1 ∧ g = q.2.2.2.2.2.2) (fun q => dif (nI n) q.2.2.2.2.1) ?_ _ ⟨0, Nat.zero_le _, nI_0, rfl, rfl⟩
  rintro ⟨y1, y2, y3, y4, y5, h1, g1⟩ K ⟨k, hk, rfl, rfl, rfl⟩ hK
  unfold F_X11_yearsOf_10; dsimp only; unfold b_X11_yearsOf_10
  rw [en]
  refine and_have (vp_in_iff.mpr (by decide)) (fun _ => ⟨fun _ => ⟨fun _ => ⟨rfl, rfl⟩, fun _ => ⟨rfl, rfl⟩⟩, fun c => ?_⟩)
  have hd := dif_lt c
  rw [nI_leI (by omega) (by omega)] at c
  have v2 : vp_in (((710 : Int32) + ((3 : Int32) * nI k)) + (2 : Int32)) 887 := by
    rw [show ((710 : Int32) + ((3 : Int32) * nI k)) + (2 : Int32) = nI (710 + 3 * k + 2) from ix3 710 3 k 2]
    exact vp_in_nI (by omega) (by omega)
  have v1 : vp_in (((710 : Int32) + ((3 : Int32) * nI k)) + (1 : Int32)) 887 := by
    rw [show ((710 : Int32) + ((3 : Int32) * nI k)) + (1 : Int32) = nI (710 + 3 * k + 1) from ix3 710 3 k 1]
    exact vp_in_nI (by omega) (by omega)
  refine and_have v2 (fun _ => ?_)
  intro x6 _
  have j125 : ∀ a b c s0 s1 : Int32, j_X11_yearsOf_125 (fun _ h' g' => h = h' ∧ g = g') (fun x1 x2 x3 x4 x5 h g => K (x1, x2, x3, x4, x5, h, g)) a b c (nI k) s0 s1 h g := by
    intro a b c s0 s1
    unfold j_X11_yearsOf_125
    rintro _ rfl
    rintro _ rfl
    exact hK _ ⟨k + 1, by omega, (nI_1 k).symm, rfl, rfl⟩ hd
  have j124 : ∀ a b c s0 : Int32, j_X11_yearsOf_124 (fun _ h' g' => h = h' ∧ g = g') (fun x1 x2 x3 x4 x5 h g => K (x1, x2, x3, x4, x5, h, g)) a b c (nI k) s0 h g := by
    intro a b c s0
    unfold j_X11_yearsOf_124; exact j125 _ _ _ _ _
  have j102 : ∀ a b c d e s0 s1 : Int32, j_X11_yearsOf_102 (fun _ h' g' => h = h' ∧ g = g') (fun x1 x2 x3 x4 x5 h g => K (x1, x2, x3, x4, x5, h, g)) a b c (nI k) d e s0 s1 h g := by
    intro a b c d e s0 s1
    unfold j_X11_yearsOf_102
    rintro _ rfl
    exact ⟨fun _ => j124 _ _ _ _, fun _ => ⟨fun _ => j124 _ _ _ _, fun _ => j125 _ _ _ _ _⟩⟩
  have j101 : ∀ a b c d e s0 : Int32, j_X11_yearsOf_101 (fun _ h' g' => h = h' ∧ g = g') (fun x1 x2 x3 x4 x5 h g => K (x1, x2, x3, x4, x5, h, g)) a b c (nI k) d e s0 h g := by
    intro a b c d e s0
    unfold j_X11_yearsOf_101; exact j102 _ _ _ _ _ _ _
  have j80 : ∀ a b c d e s0 s1 : Int32, j_X11_yearsOf_80 (fun _ h' g' => h = h' ∧ g = g') (fun x1 x2 x3 x4 x5 h g => K (x1, x2, x3, x4, x5, h, g)) a b c (nI k) d e s0 s1 h g := by
    intro a b c d e s0 s1
    unfold j_X11_yearsOf_80
    rintro _ rfl
    exact ⟨fun _ => j101 _ _ _ _ _ _, fun _ => ⟨fun _ => j101 _ _ _ _ _ _, fun _ => j102 _ _ _ _ _ _ _⟩⟩
  have j53 : ∀ a b c d e s0 : Int32, j_X11_yearsOf_53 (fun _ h' g' => h = h' ∧ g = g') (fun x1 x2 x3 x4 x5 h g => K (x1, x2, x3, x4, x5, h, g)) a b c d (nI k) e s0 h g := by
    intro a b c d e s0
    unfold j_X11_yearsOf_53
    exact ⟨fun _ => j80 _ _ _ _ _ _ _, fun _ => ⟨v1, j80 _ _ _ _ _ _ _⟩⟩
  exact ⟨fun _ => j53 _ _ _ _ _ _, fun _ => j53 _ _ _ _ _ _⟩
/-- how much of the search is left -/
def ms (f : Nat → Int32) (S : Nat) : Nat → Nat
  | 0 => 0
  | j + 1 => ms f S j + ((S : Int) - (f j).toInt).toNat * 13 ^ (5 - j)
theorem ms_s (f : Nat → Int32) (S j : Nat) : ms f S (j + 1) = ms f S j + ((S : Int) - (f j).toInt).toNat * 13 ^ (5 - j) := rfl
theorem ms_cg {f f' : Nat → Int32} {S : Nat} : ∀ {n : Nat}, (∀ k, k < n → f' k = f k) → ms f' S n = ms f S n
  | 0, _ => rfl
  | n + 1, e => by unfold ms; rw [e n (by omega), ms_cg (fun k hk => e k (by omega))]
theorem p13 {m : Nat} (h : m < 5) : 13 ^ (5 - m) = 13 * 13 ^ (4 - m) := by
  rw [show 5 - m = (4 - m) + 1 by omega, Nat.pow_succ, Nat.mul_comm]
theorem p_X11_mayGet {h : HI} {g : HL} {m : Nat} (hm : m < 6) {x2 : Int32} (hb : h 144 m = -1 ∨ bd 0 8 (h 144 m)) : w_X11_mayGet (nI m) x2 h g (fun _ h' g' => h = h' ∧ g = g') := by
  have j45 : j_X11_mayGet_45 (fun _ h' g' => h = h' ∧ g = g') h g := by
    unfold j_X11_mayGet_45; exact ⟨rfl, rfl⟩
  unfold w_X11_mayGet
  rw [nI_clamp (by omega)]
  refine and_have (vp_in_nI (by omega) (by omega)) (fun _ => ?_)
  rintro _ rfl
  refine ⟨fun _ => j45, fun c => ?_⟩
  rcases hb with e | hb
  · exact absurd e c
  · refine ⟨vp_bd (bd_add (bd_lit (n := 710) (by decide)) (bd_mul (n := 3) (by decide) hb (by decide) (by decide) (by decide)) (by decide) (by decide)) (by decide) (by decide), ?_, fun _ => ⟨rfl, rfl⟩, fun _ => ⟨fun _ => ⟨rfl, rfl⟩, fun _ => j45⟩⟩
    rw [show (704 : Int32) + nI m = nI (704 + m) from nI_add 704 m]
    exact vp_in_nI (by omega) (by omega)
set_option maxHeartbeats 2000000 in
theorem p_X11_findTaking {h : HI} {g : HL} (hR : RI (h 136)) : w_X11_findTaking h g (fun _ h' _ => KJ STk h h') := by
  obtain ⟨n, hn, hn2, en⟩ := bd_nI hR.c4
  obtain ⟨S, hS, hS2, eS⟩ := bd_nI hR.c5
  unfold w_X11_findTaking
  refine and_have (vp_in_iff.mpr (by decide)) (fun _ => ?_)
  rintro _ rfl
  rw [en]
  have j26 : ∀ (best : Int32) (mm : Nat), (n = 0 ∧ mm = 0 ∨ 1 ≤ n ∧ mm = 1) → j_X11_findTaking_26 (fun _ h' _ => KJ STk h h') (nI n) best (nI mm - 1) h g := by
    intro best mm hmm
    unfold j_X11_findTaking_26
    rw [cl0]
    refine and_have (vp_in_iff.mpr (by decide)) (fun _ => ?_)
    intro h1 e1
    refine lpE_intro (fun q => ∃ mm : Nat, mm ≤ n ∧ nI n = q.1 ∧ nI mm - 1 = q.2.2.1 ∧ KJ STk h q.2.2.2.1 ∧ ∀ j, j < mm → bd (-2) ((S : Int) - 1) (q.2.2.2.1 144 j)) (fun q => ms (q.2.2.2.1 144) S (prd q.2.2.1)) ?_ _ ⟨mm, by omega, rfl, rfl, KJ.rf.hu e1 (by unfold STk; omega), ?_⟩
    · clear e1
      rintro ⟨y1, y2, y3, h2, g2⟩ K ⟨mm, hm, rfl, rfl, J, hb⟩ hK
      dsimp only at J hb
      unfold F_X11_findTaking_35; dsimp only; unfold b_X11_findTaking_35
      refine ⟨fun _ => J, fun c => ?_⟩
      obtain ⟨m, rfl⟩ : ∃ m, mm = m + 1 := ⟨mm - 1, by
        have : mm ≠ 0 := fun q => c (by rw [q]; decide)
        omega⟩
      have ep : ∀ k : Nat, k ≤ 7 → prd (nI k) = k + 1 := by
        intro k hk
        unfold prd
        rw [nI_toInt (by omega)]; omega
      rw [nI_pred] at hK ⊢
      rw [nI_clamp (n := m) (by omega)]
      have v : vp_in (nI m) 6 := vp_in_nI (by omega) (by omega)
      refine and_have v (fun _ => and_have v (fun _ => ?_))
      intro h3 e3
      have hbm := hb m (by omega)
      have i1 : (h2 144 m + 1).toInt = (h2 144 m).toInt + 1 := by
        rw [Int32.toInt_add, show (1 : Int32).toInt = 1 by decide]
        unfold bd at hbm
        exact bm (by omega) (by omega)
      have J3 : KJ STk h h3 := J.hu e3 (by unfold STk; omega)
      have e3m : h3 144 m = h2 144 m + 1 := by rw [e3, hu_eq, pk_us]
      have e3o : ∀ k, k ≠ m → h3 144 k = h2 144 k := fun k hk => by rw [e3, hu_eq, pk_un hk]
      have eS3 : h3 136 (5 : Int32).toNatClampNeg = nI S := by rw [J3 136 _ (by unfold STk; omega)]; exact eS
      have R3 : RI (h3 136) := hR.kj J3 (fun k => by unfold STk; omega)
      have m0 : ms (h3 144) S m = ms (h2 144) S m := ms_cg (fun k hk => e3o k (by omega))
      have μ0 : ms (h2 144) S (m + 1) = ms (h2 144) S m + ((S : Int) - (h2 144 m).toInt).toNat * 13 ^ (5 - m) := rfl
      have P13 : 0 < 13 ^ (5 - m) := Nat.pow_pos (by omega)
      rw [eS3, e3m]
      rw [ep m (by omega), μ0] at hK
      refine and_have v (fun _ => and_have (vp_in_iff.mpr (by decide)) (fun _ => ⟨fun cl => ?_, fun cl => ?_⟩))
      · -- stays below S
        have hlt : (h2 144 m).toInt + 1 < S := by
          rw [Int32.lt_iff_toInt_lt, i1, nI_toInt hS2] at cl; exact cl
        have hb3 : ∀ j, j < m + 1 → bd (-2) ((S : Int) - 1) (h3 144 j) := by
          intro j hj
          by_cases ej : j = m
          · subst ej
            rw [e3m]
            unfold bd at hbm ⊢
            omega
          · rw [e3o j ej]; exact hb j (by omega)
        have dec1 : ((S : Int) - (h3 144 m).toInt).toNat + 1 = ((S : Int) - (h2 144 m).toInt).toNat := by
          rw [e3m, i1]; omega
        have stay : ∀ (b : Int32) (h4 : HI) (g4 : HL), KJ STk h h4 → (∀ j, j < m + 1 → h4 144 j = h3 144 j) → K (nI n, b, nI m, h4, g4) := by
          intro b h4 g4 J4 e4
          refine hK _ ⟨m + 1, hm, rfl, (nI_pred m), J4, fun j hj => by dsimp only; rw [e4 j hj]; exact hb3 j hj⟩ ?_
          dsimp only
          rw [ep m (by omega), ms_s, e4 m (by omega), ms_cg (f := h3 144) (fun k hk => e4 k (by omega)), m0, ← dec1, Nat.add_mul, Nat.one_mul]
          omega
        refine c_i (p_X11_givenTo (by omega)) ?_
        rintro r1 _ _ ⟨rfl, rfl⟩
        refine c_z (p_X11_mayGet (by omega) ?_) ?_
        · rw [e3m]
          by_cases q : h2 144 m + 1 = -1
          · exact .inl q
          · right
            have q2 : (h2 144 m + 1).toInt ≠ -1 := fun e => q (Int32.toInt_inj.mp (by rw [e]; decide))
            unfold bd at hbm ⊢
            rw [i1] at q2 ⊢
            omega
        · rintro r2 _ _ ⟨rfl, rfl⟩
          refine ⟨fun _ => stay _ _ _ J3 (fun _ _ => rfl), fun _ => ?_⟩
          rw [nI_1]
          refine ⟨fun _ => ?_, fun cp => ?_⟩
          · refine c_i (p_X11_givenTo (by omega)) ?_
            rintro r3 _ _ ⟨rfl, rfl⟩
            refine c_i (p_X11_yearsOf R3) ?_
            rintro r4 _ _ ⟨rfl, rfl⟩
            have j153 : ∀ (b : Int32) (h4 : HI) (g4 : HL), KJ STk h h4 → h4 144 = h3 144 → j_X11_findTaking_153 (fun _ h' _ => KJ STk h h') (fun x1 x2 x3 h g => K (x1, x2, x3, h, g)) (nI n) b (nI m) h4 g4 := by
              intro b h4 g4 J4 e4
              unfold j_X11_findTaking_153
              exact stay _ _ _ J4 (fun j _ => by rw [e4])
            refine ⟨fun _ => j153 _ _ _ J3 rfl, fun _ => ?_⟩
            refine lpE_intro (fun q => ∃ k : Nat, k ≤ n ∧ nI n = q.1 ∧ nI m = q.2.2.1 ∧ nI k = q.2.2.2.1 ∧ KJ STk h q.2.2.2.2.1 ∧ q.2.2.2.2.1 144 = h3 144) (fun q => dif (nI n) q.2.2.2.1) ?_ _ ⟨0, Nat.zero_le _, rfl, rfl, nI_0, J3, rfl⟩
            rintro ⟨z1, z2, z3, z5, h4, g4⟩ K2 ⟨k, hk, rfl, rfl, rfl, J4, e4⟩ hK2
            dsimp only at J4 e4
            unfold F_X11_findTaking_127; dsimp only; unfold b_X11_findTaking_127
            refine ⟨fun _ => j153 _ _ _ J4 e4, fun ck => ?_⟩
            have hd := dif_lt ck
            rw [nI_leI (by omega) (by omega)] at ck
            have vk : vp_in (nI k) 6 := vp_in_nI (by omega) (by omega)
            refine and_have vk (fun _ => and_have vk (fun _ => ?_))
            intro h5 e5
            rintro _ rfl
            exact hK2 _ ⟨k + 1, by omega, rfl, rfl, (nI_1 k).symm, J4.hu e5 (by unfold STk; omega), by dsimp only; rw [e5, hu_ne (by decide)]; exact e4⟩ hd
          · rw [nI_leI (by omega) (by omega)] at cp
            rintro _ rfl
            rw [nI_clamp (by omega)]
            refine and_have (vp_in_nI (by omega) (by omega)) (fun _ => ?_)
            intro h4 e4
            have e4p : h4 144 (m + 1) = -2 := by rw [e4, hu_eq, pk_us]
            have e4o : ∀ k, k < m + 1 → h4 144 k = h3 144 k := fun k hk => by rw [e4, hu_eq, pk_un (by omega)]
            refine hK _ ⟨m + 2, by omega, rfl, nI_pred (m + 1), J3.hu e4 (by unfold STk; omega), ?_⟩ ?_
            · intro j hj
              dsimp only
              by_cases ej : j = m + 1
              · subst ej
                rw [e4p]
                unfold bd
                rw [show (-2 : Int32).toInt = -2 by decide]
                omega
              · rw [e4o j (by omega)]; exact hb3 j (by omega)
            · dsimp only
              rw [ep (m + 1) (by omega), ms_s, ms_s, e4p, e4o m (by omega), ms_cg (f := h3 144) (fun k hk => e4o k (by omega)), m0, ← dec1, Nat.add_mul, Nat.one_mul, show (-2 : Int32).toInt = -2 by decide, p13 (m := m) (by omega), show 5 - (m + 1) = 4 - m by omega]
              have q1 : ((S : Int) - -2).toNat * 13 ^ (4 - m) ≤ 12 * 13 ^ (4 - m) := Nat.mul_le_mul_right _ (by omega)
              have q2 : 0 < 13 ^ (4 - m) := Nat.pow_pos (by omega)
              omega
      · -- one back
        rintro _ rfl
        have tm : 1 ≤ ((S : Int) - (h2 144 m).toInt).toNat := by
          unfold bd at hbm; omega
        have q1 : 1 * 13 ^ (5 - m) ≤ ((S : Int) - (h2 144 m).toInt).toNat * 13 ^ (5 - m) := Nat.mul_le_mul_right _ tm
        have em : nI m + (-1) = nI m - 1 := by
          cases m with
          | zero => decide
          | succ i => rw [nI_pred, pk_m1]
        refine hK _ ⟨m, by omega, rfl, em.symm, J3, fun j hj => by dsimp only; rw [e3o j (by omega)]; exact hb j (by omega)⟩ ?_
        dsimp only
        have pm : prd (nI m + (-1)) = m := by
          rw [em]
          cases m with
          | zero => decide
          | succ i => rw [nI_pred, ep i (by omega)]
        rw [pm, m0]
        omega
    · intro j hj
      dsimp only
      have : j = 0 := by omega
      subst this
      rw [e1, hu_eq, pk_us]
      unfold bd
      rw [show (-2 : Int32).toInt = -2 by decide]
      omega
  have j16 : ∀ best : Int32, j_X11_findTaking_16 (fun _ h' _ => KJ STk h h') (nI n) best h g := by
    intro best
    unfold j_X11_findTaking_16
    refine ⟨fun c => ?_, fun c => ?_⟩
    · have : n ≠ 0 := fun q => c (by rw [q]; exact nI_0)
      exact j26 best 1 (by omega)
    · have : n = 0 := (nI_eq (by omega) (by omega)).mp (c.trans nI_0.symm)
      exact j26 best 0 (by omega)
  exact ⟨fun _ => j16 _, fun _ => j16 _⟩
end
section
-- 35.ref1
theorem p_X11_sayOf {h : HI} {g : HL} (hR : RI (h 136)) {x1 : Int32} {x2 : Int32} (b_x1 : bd (0) (59) x1) (b_x2 : bd (0) (5) x2)  : w_X11_sayOf x1 x2 h g (fun r h' g' => h = h' ∧ g = g' ∧ (h 136 (((152 : Int32) + ((6 : Int32) * x1)) + x2).toNatClampNeg) = r) := by
  unfold w_X11_sayOf
  refine and_have (by exact vp_bd (bd_add (bd_add (bd_lit (n := 152) (by decide)) (bd_mul (n := 6) (by decide) (by with_reducible assumption) (by decide) (by decide) (by decide)) (by decide) (by decide)) (by with_reducible assumption) (by decide) (by decide)) (by decide) (by decide)) (fun hv => ?_)
  exact ⟨rfl, rfl, rfl⟩
theorem p_X11_chainOf {h : HI} {g : HL} (hR : RI (h 136)) {x1 : Int32} {x2 : Int32} (b_x1 : bd (0) (15) x1) (b_x2 : bd (0) (9) x2)  : w_X11_chainOf x1 x2 h g (fun r h' g' => h = h' ∧ g = g' ∧ (h 136 (((512 : Int32) + ((10 : Int32) * x1)) + x2).toNatClampNeg) = r) := by
  unfold w_X11_chainOf
  refine and_have (by exact vp_bd (bd_add (bd_add (bd_lit (n := 512) (by decide)) (bd_mul (n := 10) (by decide) (by with_reducible assumption) (by decide) (by decide) (by decide)) (by decide) (by decide)) (by with_reducible assumption) (by decide) (by decide)) (by decide) (by decide)) (fun hv => ?_)
  exact ⟨rfl, rfl, rfl⟩
theorem p_X11_lets {h : HI} {g : HL} (hR : RI (h 136)) {x1 : Int32} (b_x1 : bd (0) (59) x1)  : w_X11_lets x1 h g (fun h' g' => KJ (SLt) h h') := by
  unfold w_X11_lets
  have hJ : KJ (SLt) h h := KJ.rf
  refine c_i (p_X11_sayOf hR (bd.mo (by with_reducible assumption) (by decide) (by decide)) (bd.mo (bd_lit (n := 1) (by decide)) (by decide) (by decide)) ) ?_
  rintro _ _ _ ⟨rfl, rfl, rfl⟩
  refine ⟨fun c => ?_, fun c => ?_⟩
  · skip
    unfold j_X11_lets_31
    refine ⟨fun c => ?_, fun c => ?_⟩
    · skip
      refine c_i (p_X11_sayOf hR (bd.mo (by with_reducible assumption) (by decide) (by decide)) (bd.mo (bd_lit (n := 2) (by decide)) (by decide) (by decide)) ) ?_
      rintro _ _ _ ⟨rfl, rfl, rfl⟩
      refine c_i (p_X11_sayOf hR (bd.mo (by with_reducible assumption) (by decide) (by decide)) (bd.mo (bd_lit (n := 3) (by decide)) (by decide) (by decide)) ) ?_
      rintro _ _ _ ⟨rfl, rfl, rfl⟩
      unfold j_X11_lets_58
      intro h_58 e_h_58
      have hJ := hJ.hu e_h_58 (by unfold SLt; omega)
      have hR_h_58 := hR.kj hJ (fun k => by unfold SLt; omega)
      refine ⟨fun c => ?_, fun c => ?_⟩
      · skip
        refine c_i (p_X11_sayOf hR_h_58 (bd.mo (by with_reducible assumption) (by decide) (by decide)) (bd.mo (bd_lit (n := 2) (by decide)) (by decide) (by decide)) ) ?_
        rintro _ _ _ ⟨rfl, rfl, rfl⟩
        refine c_i (p_X11_sayOf hR_h_58 (bd.mo (by with_reducible assumption) (by decide) (by decide)) (bd.mo (bd_lit (n := 3) (by decide)) (by decide) (by decide)) ) ?_
        rintro _ _ _ ⟨rfl, rfl, rfl⟩
        unfold j_X11_lets_87
        intro h_87 e_h_87
        have hJ := hJ.hu e_h_87 (by unfold SLt; omega)
        have hR_h_87 := hR.kj hJ (fun k => by unfold SLt; omega)
        exact hJ
      · skip
        unfold j_X11_lets_87
        intro h_87 e_h_87
        have hJ := hJ.hu e_h_87 (by unfold SLt; omega)
        have hR_h_87 := hR.kj hJ (fun k => by unfold SLt; omega)
        exact hJ
    · skip
      unfold j_X11_lets_58
      intro h_58 e_h_58
      have hJ := hJ.hu e_h_58 (by unfold SLt; omega)
      have hR_h_58 := hR.kj hJ (fun k => by unfold SLt; omega)
      refine ⟨fun c => ?_, fun c => ?_⟩
      · skip
        refine c_i (p_X11_sayOf hR_h_58 (bd.mo (by with_reducible assumption) (by decide) (by decide)) (bd.mo (bd_lit (n := 2) (by decide)) (by decide) (by decide)) ) ?_
        rintro _ _ _ ⟨rfl, rfl, rfl⟩
        refine c_i (p_X11_sayOf hR_h_58 (bd.mo (by with_reducible assumption) (by decide) (by decide)) (bd.mo (bd_lit (n := 3) (by decide)) (by decide) (by decide)) ) ?_
        rintro _ _ _ ⟨rfl, rfl, rfl⟩
        unfold j_X11_lets_87
        intro h_87 e_h_87
        have hJ := hJ.hu e_h_87 (by unfold SLt; omega)
        have hR_h_87 := hR.kj hJ (fun k => by unfold SLt; omega)
        exact hJ
      · skip
        unfold j_X11_lets_87
        intro h_87 e_h_87
        have hJ := hJ.hu e_h_87 (by unfold SLt; omega)
        have hR_h_87 := hR.kj hJ (fun k => by unfold SLt; omega)
        exact hJ
  · skip
    refine c_i (p_X11_sayOf hR (bd.mo (by with_reducible assumption) (by decide) (by decide)) (bd.mo (bd_lit (n := 0) (by decide)) (by decide) (by decide)) ) ?_
    rintro _ _ _ ⟨rfl, rfl, rfl⟩
    refine c_i (p_X11_sayOf hR (bd.mo (by with_reducible assumption) (by decide) (by decide)) (bd.mo (bd_lit (n := 4) (by decide)) (by decide) (by decide)) ) ?_
    rintro _ _ _ ⟨rfl, rfl, rfl⟩
    refine c_i (p_X11_wornOf hR (bd.mo (hR.sp (bd.mo (by with_reducible assumption) (by decide) (by decide : _ ≤ (59 : Int)))) (by decide) (by decide)) ) ?_
    rintro r_24 h_24 g_24 hJ2
    have hJ := hJ.tr (hJ2.mo (fun o k hq => by unfold SRd at hq; unfold SLt; omega))
    have hR_h_24 := hR.kj hJ (fun k => by unfold SLt; omega)
    unfold j_X11_lets_31
    refine ⟨fun c => ?_, fun c => ?_⟩
    · skip
      refine c_i (p_X11_sayOf hR_h_24 (bd.mo (by with_reducible assumption) (by decide) (by decide)) (bd.mo (bd_lit (n := 2) (by decide)) (by decide) (by decide)) ) ?_
      rintro _ _ _ ⟨rfl, rfl, rfl⟩
      refine c_i (p_X11_sayOf hR_h_24 (bd.mo (by with_reducible assumption) (by decide) (by decide)) (bd.mo (bd_lit (n := 3) (by decide)) (by decide) (by decide)) ) ?_
      rintro _ _ _ ⟨rfl, rfl, rfl⟩
      unfold j_X11_lets_58
      intro h_58 e_h_58
      have hJ := hJ.hu e_h_58 (by unfold SLt; omega)
      have hR_h_58 := hR.kj hJ (fun k => by unfold SLt; omega)
      refine ⟨fun c => ?_, fun c => ?_⟩
      · skip
        refine c_i (p_X11_sayOf hR_h_58 (bd.mo (by with_reducible assumption) (by decide) (by decide)) (bd.mo (bd_lit (n := 2) (by decide)) (by decide) (by decide)) ) ?_
        rintro _ _ _ ⟨rfl, rfl, rfl⟩
        refine c_i (p_X11_sayOf hR_h_58 (bd.mo (by with_reducible assumption) (by decide) (by decide)) (bd.mo (bd_lit (n := 3) (by decide)) (by decide) (by decide)) ) ?_
        rintro _ _ _ ⟨rfl, rfl, rfl⟩
        unfold j_X11_lets_87
        intro h_87 e_h_87
        have hJ := hJ.hu e_h_87 (by unfold SLt; omega)
        have hR_h_87 := hR.kj hJ (fun k => by unfold SLt; omega)
        exact hJ
      · skip
        unfold j_X11_lets_87
        intro h_87 e_h_87
        have hJ := hJ.hu e_h_87 (by unfold SLt; omega)
        have hR_h_87 := hR.kj hJ (fun k => by unfold SLt; omega)
        exact hJ
    · skip
      unfold j_X11_lets_58
      intro h_58 e_h_58
      have hJ := hJ.hu e_h_58 (by unfold SLt; omega)
      have hR_h_58 := hR.kj hJ (fun k => by unfold SLt; omega)
      refine ⟨fun c => ?_, fun c => ?_⟩
      · skip
        refine c_i (p_X11_sayOf hR_h_58 (bd.mo (by with_reducible assumption) (by decide) (by decide)) (bd.mo (bd_lit (n := 2) (by decide)) (by decide) (by decide)) ) ?_
        rintro _ _ _ ⟨rfl, rfl, rfl⟩
        refine c_i (p_X11_sayOf hR_h_58 (bd.mo (by with_reducible assumption) (by decide) (by decide)) (bd.mo (bd_lit (n := 3) (by decide)) (by decide) (by decide)) ) ?_
        rintro _ _ _ ⟨rfl, rfl, rfl⟩
        unfold j_X11_lets_87
        intro h_87 e_h_87
        have hJ := hJ.hu e_h_87 (by unfold SLt; omega)
        have hR_h_87 := hR.kj hJ (fun k => by unfold SLt; omega)
        exact hJ
      · skip
        unfold j_X11_lets_87
        intro h_87 e_h_87
        have hJ := hJ.hu e_h_87 (by unfold SLt; omega)
        have hR_h_87 := hR.kj hJ (fun k => by unfold SLt; omega)
        exact hJ
theorem p_X11_isOf {h : HI} {g : HL} (hR : RI (h 136)) {x1 : Int32} {x2 : Int32} (b_x1 : bd (0) (59) x1)  : w_X11_isOf x1 x2 h g (fun r h' g' => h = h' ∧ g = g') := by
  unfold w_X11_isOf
  refine c_i (p_X11_sayOf hR (bd.mo (by with_reducible assumption) (by decide) (by decide)) (bd.mo (bd_lit (n := 0) (by decide)) (by decide) (by decide)) ) ?_
  rintro _ _ _ ⟨rfl, rfl, rfl⟩
  refine ⟨fun c => ?_, fun c => ?_⟩
  · skip
    exact ⟨rfl, rfl⟩
  · skip
    refine c_i (p_X11_sayOf hR (bd.mo (by with_reducible assumption) (by decide) (by decide)) (bd.mo (bd_lit (n := 5) (by decide)) (by decide) (by decide)) ) ?_
    rintro _ _ _ ⟨rfl, rfl, rfl⟩
    refine ⟨fun c => ?_, fun c => ?_⟩
    · skip
      exact ⟨rfl, rfl⟩
    · skip
      exact ⟨rfl, rfl⟩
theorem p_X11_numberFrom {h : HI} {g : HL} (hR : RI (h 136)) {x1 : Int32}  (T12 : bd 1 100000 (h 135 12)) : w_X11_numberFrom x1 h g (fun r h' g' => h = h' ∧ g = g') := by
  unfold w_X11_numberFrom
  refine ⟨fun c => ?_, fun c => ?_⟩
  · skip
    refine and_have (by exact bd_ne T12) (fun hv => ?_)
    exact ⟨rfl, rfl⟩
  · skip
    exact ⟨rfl, rfl⟩
theorem p_X11_findFirst {h : HI} {g : HL} (hR : RI (h 136)) {x1 : Int32} (b_x1 : bd (0) (23) x1)  : w_X11_findFirst x1 h g (fun h' g' => KJ (SFf) h h') := by
  unfold w_X11_findFirst
  have hJ : KJ (SFf) h h := KJ.rf
  refine c_v (p_X11_findFamily hR (bd.mo (by with_reducible assumption) (by decide) (by decide)) ) ?_
  rintro h_2 g_2 ⟨hJ2, T12⟩
  have hJ := hJ.tr (hJ2.mo (fun o k hq => by unfold SFm at hq; unfold SFf; omega))
  have hR_h_2 := hR.kj hJ (fun k => by unfold SFf; omega)
  rintro _ rfl
  refine lpE_intro (fun ⟨x1_q, x2_q, x3_q, x4_q, h_q, g_q⟩ => KJ (SFf) h h_q ∧ bd 1 100000 (h_q 135 12) ∧ x1 = x1_q ∧ 0 ≤ x4_q.toInt ∧ True) (fun ⟨x1_q, x2_q, x3_q, x4_q, h_q, g_q⟩ => ((60 : Int) - x4_q.toInt).toNat) ?_ _ ⟨hJ, T12, rfl, ge0, trivial⟩
  rintro ⟨x1_1, x2_1, x3_1, x4_1, h_1, g_1⟩ K1 ⟨hJ, T12, rfl, i1_0, -⟩ hK1
  unfold F_X11_findFirst_17; dsimp only; unfold b_X11_findFirst_17
  have hR_h_1 := hR.kj hJ (fun k => by unfold SFf; omega)
  refine and_have (by exact vp_in_iff.mpr (by decide)) (fun hv => ?_)
  refine ⟨fun c => ?_, fun c => ?_⟩
  · skip
    intro h_119 e_h_119
    have T12 : bd 1 100000 (h_119 135 12) := by first | (rw [e_h_119, hu_ne (by first | decide | omega)]; exact T12) | (rw [e_h_119, hu_eq, pk_un (by decide)]; exact T12) | (rw [e_h_119, hua_ne (by decide)]; exact T12)
    have hJ := hJ.hu e_h_119 (by unfold SFf; omega)
    have hR_h_119 := hR.kj hJ (fun k => by unfold SFf; omega)
    refine ⟨fun c => ?_, fun c => ?_⟩
    · skip
      unfold j_X11_findFirst_137
      intro h_137 e_h_137
      have T12 : bd 1 100000 (h_137 135 12) := by first | (rw [e_h_137, hu_ne (by first | decide | omega)]; exact T12) | (rw [e_h_137, hu_eq, pk_un (by decide)]; exact T12) | (rw [e_h_137, hua_ne (by decide)]; exact T12)
      have hJ := hJ.hu e_h_137 (by unfold SFf; omega)
      have hR_h_137 := hR.kj hJ (fun k => by unfold SFf; omega)
      exact hJ
    · skip
      unfold j_X11_findFirst_137
      intro h_137 e_h_137
      have T12 : bd 1 100000 (h_137 135 12) := by first | (rw [e_h_137, hu_ne (by first | decide | omega)]; exact T12) | (rw [e_h_137, hu_eq, pk_un (by decide)]; exact T12) | (rw [e_h_137, hua_ne (by decide)]; exact T12)
      have hJ := hJ.hu e_h_137 (by unfold SFf; omega)
      have hR_h_137 := hR.kj hJ (fun k => by unfold SFf; omega)
      exact hJ
  · skip
    have hb := bd_up (x := x4_1) (by with_reducible assumption) c hR_h_1.c1
    refine c_z (p_X11_isOf hR_h_1 (bd.mo (by with_reducible assumption) (by decide) (by decide)) ) ?_
    rintro r_32 _ _ ⟨rfl, rfl⟩
    refine ⟨fun c => ?_, fun c => ?_⟩
    · skip
      unfold j_X11_findFirst_111
      rintro _ rfl
      exact hK1 _ ⟨hJ, T12, rfl, (inc_b (by with_reducible assumption) (by decide) (by decide)), trivial⟩ (mu_lt (by with_reducible assumption) (by decide))
    · skip
      refine c_v (p_X11_lets hR_h_1 (bd.mo (by with_reducible assumption) (by decide) (by decide)) ) ?_
      rintro h_41 g_41 hJ2
      have hJ := hJ.tr (hJ2.mo (fun o k hq => by unfold SLt at hq; unfold SFf; omega))
      have hR_h_41 := hR.kj hJ (fun k => by unfold SFf; omega)
      have T12 : bd 1 100000 (h_41 135 12) := by first | (rw [hJ2 135 12 (by unfold SLt; omega)]; exact T12) | exact (hJ2.at 12 (by unfold SLt; omega)).trans T12 | exact hp.trans T12
      refine c_i (p_X11_numberFrom hR_h_41 T12) ?_
      rintro r_49 _ _ ⟨rfl, rfl⟩
      refine ⟨fun c => ?_, fun c => ?_⟩
      · skip
        refine and_have (by exact bd_ne T12) (fun hv => ?_)
        unfold j_X11_findFirst_83
        refine ⟨fun c => ?_, fun c => ?_⟩
        · skip
          unfold j_X11_findFirst_97
          refine ⟨fun c => ?_, fun c => ?_⟩
          · skip
            unfold j_X11_findFirst_110
            unfold j_X11_findFirst_111
            rintro _ rfl
            exact hK1 _ ⟨hJ, T12, rfl, (inc_b (by with_reducible assumption) (by decide) (by decide)), trivial⟩ (mu_lt (by with_reducible assumption) (by decide))
          · skip
            unfold j_X11_findFirst_110
            unfold j_X11_findFirst_111
            rintro _ rfl
            exact hK1 _ ⟨hJ, T12, rfl, (inc_b (by with_reducible assumption) (by decide) (by decide)), trivial⟩ (mu_lt (by with_reducible assumption) (by decide))
        · skip
          unfold j_X11_findFirst_97
          refine ⟨fun c => ?_, fun c => ?_⟩
          · skip
            unfold j_X11_findFirst_110
            unfold j_X11_findFirst_111
            rintro _ rfl
            exact hK1 _ ⟨hJ, T12, rfl, (inc_b (by with_reducible assumption) (by decide) (by decide)), trivial⟩ (mu_lt (by with_reducible assumption) (by decide))
          · skip
            unfold j_X11_findFirst_110
            unfold j_X11_findFirst_111
            rintro _ rfl
            exact hK1 _ ⟨hJ, T12, rfl, (inc_b (by with_reducible assumption) (by decide) (by decide)), trivial⟩ (mu_lt (by with_reducible assumption) (by decide))
      · skip
        unfold j_X11_findFirst_83
        refine ⟨fun c => ?_, fun c => ?_⟩
        · skip
          unfold j_X11_findFirst_97
          refine ⟨fun c => ?_, fun c => ?_⟩
          · skip
            unfold j_X11_findFirst_110
            unfold j_X11_findFirst_111
            rintro _ rfl
            exact hK1 _ ⟨hJ, T12, rfl, (inc_b (by with_reducible assumption) (by decide) (by decide)), trivial⟩ (mu_lt (by with_reducible assumption) (by decide))
          · skip
            unfold j_X11_findFirst_110
            unfold j_X11_findFirst_111
            rintro _ rfl
            exact hK1 _ ⟨hJ, T12, rfl, (inc_b (by with_reducible assumption) (by decide) (by decide)), trivial⟩ (mu_lt (by with_reducible assumption) (by decide))
        · skip
          unfold j_X11_findFirst_97
          refine ⟨fun c => ?_, fun c => ?_⟩
          · skip
            unfold j_X11_findFirst_110
            unfold j_X11_findFirst_111
            rintro _ rfl
            exact hK1 _ ⟨hJ, T12, rfl, (inc_b (by with_reducible assumption) (by decide) (by decide)), trivial⟩ (mu_lt (by with_reducible assumption) (by decide))
          · skip
            unfold j_X11_findFirst_110
            unfold j_X11_findFirst_111
            rintro _ rfl
            exact hK1 _ ⟨hJ, T12, rfl, (inc_b (by with_reducible assumption) (by decide) (by decide)), trivial⟩ (mu_lt (by with_reducible assumption) (by decide))
theorem p_X11_firstOf {h : HI} {g : HL} (hR : RI (h 136)) {x1 : Int32} {x2 : Int32} (b_x1 : bd (0) (23) x1)  : w_X11_firstOf x1 x2 h g (fun r h' g' => KJ (SFf) h h') := by
  unfold w_X11_firstOf
  have hJ : KJ (SFf) h h := KJ.rf
  refine c_v (p_X11_findFirst hR (bd.mo (by with_reducible assumption) (by decide) (by decide)) ) ?_
  rintro h_2 g_2 hJ2
  have hJ := hJ.tr (hJ2)
  have hR_h_2 := hR.kj hJ (fun k => by unfold SFf; omega)
  refine ⟨fun c => ?_, fun c => ?_⟩
  · skip
    refine ⟨fun c => ?_, fun c => ?_⟩
    · skip
      refine ⟨fun c => ?_, fun c => ?_⟩
      · skip
        unfold j_X11_firstOf_56
        exact hJ
      · skip
        unfold j_X11_firstOf_56
        exact hJ
    · skip
      exact hJ
  · skip
    exact hJ
theorem p_X11_first {h : HI} {g : HL} (hR : RI (h 136)) {x1 : Int32} {x2 : Int32}   : w_X11_first x1 x2 h g (fun r h' g' => KJ (SFf) h h') := by
  unfold w_X11_first
  have hJ : KJ (SFf) h h := KJ.rf
  refine c_is (vp_in_iff.mpr (by decide)) hR.c0 (by decide) (fun q q1 => ?_) (fun q => ?_)
  · skip
    refine ⟨fun c => ?_, fun c => ?_⟩
    · exact absI c
    · skip
      refine c_in3 (fun q => ?_) (fun q => ?_)
      · skip
        refine ⟨fun c => ?_, fun c => ?_⟩
        · exact absI c
        · skip
          refine c_i (p_X11_firstOf hR (bd.mo (by with_reducible assumption) (by decide) (by decide)) ) ?_
          rintro r_24 h_24 g_24 hJ2
          have hJ := hJ.tr (hJ2)
          have hR_h_24 := hR.kj hJ (fun k => by unfold SFf; omega)
          exact hJ
      · skip
        refine ⟨fun c => ?_, fun c => ?_⟩
        · skip
          exact hJ
        · exact absN c
  · skip
    refine ⟨fun c => ?_, fun c => ?_⟩
    · skip
      exact hJ
    · exact absN c
theorem p_X11_quarrels {h : HI} {g : HL} (hR : RI (h 136)) {x1 : Int32} {x2 : Int32} {x3 : Int32} (b_x1 : bd (0) (59) x1)  : w_X11_quarrels x1 x2 x3 h g (fun r h' g' => KJ (SLt) h h') := by
  unfold w_X11_quarrels
  have hJ : KJ (SLt) h h := KJ.rf
  refine c_z (p_X11_isOf hR (bd.mo (by with_reducible assumption) (by decide) (by decide)) ) ?_
  rintro r_3 _ _ ⟨rfl, rfl⟩
  refine ⟨fun c => ?_, fun c => ?_⟩
  · skip
    refine c_v (p_X11_lets hR (bd.mo (by with_reducible assumption) (by decide) (by decide)) ) ?_
    rintro h_13 g_13 hJ2
    have hJ := hJ.tr (hJ2)
    have hR_h_13 := hR.kj hJ (fun k => by unfold SLt; omega)
    refine c_in3 (fun q => ?_) (fun q => ?_)
    · skip
      refine ⟨fun c => ?_, fun c => ?_⟩
      · skip
        exact hJ
      · exact absI c
    · skip
      refine ⟨fun c => ?_, fun c => ?_⟩
      · exact absN c
      · skip
        exact hJ
  · skip
    exact hJ
theorem p_X11_tries {h : HI} {g : HL} (hR : RI (h 136)) {x1 : Int32} {x2 : Int32}   : w_X11_tries x1 x2 h g (fun h' g' => KJ (STr) h h') := by
  unfold w_X11_tries
  have hJ : KJ (STr) h h := KJ.rf
  refine c_in3 (fun q => ?_) (fun q => ?_)
  · skip
    refine ⟨fun c => ?_, fun c => ?_⟩
    · skip
      rintro _ rfl
      refine lpE_intro (fun ⟨x1_q, x3_q, x4_q, x5_q, h_q, g_q⟩ => KJ (STr) h h_q ∧ x1 = x1_q ∧ (((h 135 11) + ((h 135 12) * x2))) = x3_q ∧ 0 ≤ x5_q.toInt ∧ True) (fun ⟨x1_q, x3_q, x4_q, x5_q, h_q, g_q⟩ => ((60 : Int) - x5_q.toInt).toNat) ?_ _ ⟨hJ, rfl, rfl, ge0, trivial⟩
      rintro ⟨x1_1, x3_1, x4_1, x5_1, h_1, g_1⟩ K1 ⟨hJ, rfl, rfl, i1_0, -⟩ hK1
      unfold F_X11_tries_35; dsimp only; unfold b_X11_tries_35
      have hR_h_1 := hR.kj hJ (fun k => by unfold STr; omega)
      refine and_have (by exact vp_in_iff.mpr (by decide)) (fun hv => ?_)
      refine ⟨fun c => ?_, fun c => ?_⟩
      · skip
        refine ⟨fun c => ?_, fun c => ?_⟩
        · skip
          unfold j_X11_tries_107
          intro h_110 e_h_110
          have hJ := hJ.hu e_h_110 (by unfold STr; omega)
          have hR_h_110 := hR.kj hJ (fun k => by unfold STr; omega)
          intro h_115 e_h_115
          have hJ := hJ.hu e_h_115 (by unfold STr; omega)
          have hR_h_115 := hR.kj hJ (fun k => by unfold STr; omega)
          exact hJ
        · skip
          refine ⟨fun c => ?_, fun c => ?_⟩
          · skip
            unfold j_X11_tries_107
            intro h_110 e_h_110
            have hJ := hJ.hu e_h_110 (by unfold STr; omega)
            have hR_h_110 := hR.kj hJ (fun k => by unfold STr; omega)
            intro h_115 e_h_115
            have hJ := hJ.hu e_h_115 (by unfold STr; omega)
            have hR_h_115 := hR.kj hJ (fun k => by unfold STr; omega)
            exact hJ
          · skip
            refine ⟨fun c => ?_, fun c => ?_⟩
            · skip
              exact hJ
            · skip
              refine ⟨fun c => ?_, fun c => ?_⟩
              · skip
                exact hJ
              · skip
                unfold j_X11_tries_107
                intro h_110 e_h_110
                have hJ := hJ.hu e_h_110 (by unfold STr; omega)
                have hR_h_110 := hR.kj hJ (fun k => by unfold STr; omega)
                intro h_115 e_h_115
                have hJ := hJ.hu e_h_115 (by unfold STr; omega)
                have hR_h_115 := hR.kj hJ (fun k => by unfold STr; omega)
                exact hJ
      · skip
        have hb := bd_up (x := x5_1) (by with_reducible assumption) c hR_h_1.c1
        refine c_z (p_X11_quarrels hR_h_1 (bd.mo (by with_reducible assumption) (by decide) (by decide)) ) ?_
        rintro r_53 h_53 g_53 hJ2
        have hJ := hJ.tr (hJ2.mo (fun o k hq => by unfold SLt at hq; unfold STr; omega))
        have hR_h_53 := hR.kj hJ (fun k => by unfold STr; omega)
        refine ⟨fun c => ?_, fun c => ?_⟩
        · skip
          unfold j_X11_tries_64
          rintro _ rfl
          rintro _ rfl
          exact hK1 _ ⟨hJ, rfl, rfl, (inc_b (by with_reducible assumption) (by decide) (by decide)), trivial⟩ (mu_lt (by with_reducible assumption) (by decide))
        · skip
          unfold j_X11_tries_64
          rintro _ rfl
          rintro _ rfl
          exact hK1 _ ⟨hJ, rfl, rfl, (inc_b (by with_reducible assumption) (by decide) (by decide)), trivial⟩ (mu_lt (by with_reducible assumption) (by decide))
    · exact absI c
  · skip
    refine ⟨fun c => ?_, fun c => ?_⟩
    · exact absN c
    · skip
      exact hJ
theorem p_X11_quarrel {h : HI} {g : HL} (hR : RI (h 136)) {x1 : Int32} {x2 : Int32}   : w_X11_quarrel x1 x2 h g (fun r h' g' => KJ (SQu) h h') := by
  unfold w_X11_quarrel
  have hJ : KJ (SQu) h h := KJ.rf
  refine c_is (vp_in_iff.mpr (by decide)) hR.c0 (by decide) (fun q q1 => ?_) (fun q => ?_)
  · skip
    refine ⟨fun c => ?_, fun c => ?_⟩
    · exact absI c
    · skip
      refine ⟨fun c => ?_, fun c => ?_⟩
      · skip
        unfold j_X11_quarrel_23
        refine c_v (p_X11_findFamily hR (bd.mo (by with_reducible assumption) (by decide) (by decide)) ) ?_
        rintro h_25 g_25 ⟨hJ2, T12⟩
        have hJ := hJ.tr (hJ2.mo (fun o k hq => by unfold SFm at hq; unfold SQu; omega))
        have hR_h_25 := hR.kj hJ (fun k => by unfold SQu; omega)
        intro h_30 e_h_30
        have T12 : bd 1 100000 (h_30 135 12) := by first | (rw [e_h_30, hu_ne (by first | decide | omega)]; exact T12) | (rw [e_h_30, hu_eq, pk_un (by decide)]; exact T12) | (rw [e_h_30, hua_ne (by decide)]; exact T12)
        have hJ := hJ.hu e_h_30 (by unfold SQu; omega)
        have hR_h_30 := hR.kj hJ (fun k => by unfold SQu; omega)
        refine c_v (p_X11_tries hR_h_30 ) ?_
        rintro h_36 g_36 hJ2
        have hJ := hJ.tr (hJ2.mo (fun o k hq => by unfold STr at hq; unfold SQu; omega))
        have hR_h_36 := hR.kj hJ (fun k => by unfold SQu; omega)
        have T12 : bd 1 100000 (h_36 135 12) := by first | (rw [hJ2 135 12 (by unfold STr; omega)]; exact T12) | exact (hJ2.at 12 (by unfold STr; omega)).trans T12 | exact hp.trans T12
        refine lpE_intro (fun ⟨x1_q, x2_q, x3_q, h_q, g_q⟩ => KJ (SQu) h h_q ∧ bd 1 100000 (h_q 135 12) ∧ x1 = x1_q ∧ x2 = x2_q ∧ 0 ≤ x3_q.toInt ∧ True) (fun ⟨x1_q, x2_q, x3_q, h_q, g_q⟩ => ((60 : Int) - x3_q.toInt).toNat) ?_ _ ⟨hJ, T12, rfl, rfl, ge0, trivial⟩
        rintro ⟨x1_1, x2_1, x3_1, h_1, g_1⟩ K1 ⟨hJ, T12, rfl, rfl, i1_0, -⟩ hK1
        unfold F_X11_quarrel_41; dsimp only; unfold b_X11_quarrel_41
        have hR_h_1 := hR.kj hJ (fun k => by unfold SQu; omega)
        refine and_have (by exact vp_in_iff.mpr (by decide)) (fun hv => ?_)
        refine ⟨fun c => ?_, fun c => ?_⟩
        · skip
          refine ⟨fun c => ?_, fun c => ?_⟩
          · skip
            refine lpE_intro (fun ⟨x1_q, x2_q, x3_q, x4_q, h_q, g_q⟩ => KJ (SQu) h h_q ∧ bd 1 100000 (h_q 135 12) ∧ x1 = x1_q ∧ x2 = x2_q ∧ 0 ≤ x4_q.toInt ∧ True) (fun ⟨x1_q, x2_q, x3_q, x4_q, h_q, g_q⟩ => ((60 : Int) - x4_q.toInt).toNat) ?_ _ ⟨hJ, T12, rfl, rfl, ge0, trivial⟩
            rintro ⟨x1_2, x2_2, x3_2, x4_2, h_2, g_2⟩ K2 ⟨hJ, T12, rfl, rfl, i2_0, -⟩ hK2
            unfold F_X11_quarrel_129; dsimp only; unfold b_X11_quarrel_129
            have hR_h_2 := hR.kj hJ (fun k => by unfold SQu; omega)
            refine and_have (by exact vp_in_iff.mpr (by decide)) (fun hv => ?_)
            refine ⟨fun c => ?_, fun c => ?_⟩
            · skip
              exact hJ
            · skip
              have hb := bd_up (x := x4_2) (by with_reducible assumption) c hR_h_2.c1
              refine c_z (p_X11_quarrels hR_h_2 (bd.mo (by with_reducible assumption) (by decide) (by decide)) ) ?_
              rintro r_148 h_148 g_148 hJ2
              have hJ := hJ.tr (hJ2.mo (fun o k hq => by unfold SLt at hq; unfold SQu; omega))
              have hR_h_148 := hR.kj hJ (fun k => by unfold SQu; omega)
              have T12 : bd 1 100000 (h_148 135 12) := by first | (rw [hJ2 135 12 (by unfold SLt; omega)]; exact T12) | exact (hJ2.at 12 (by unfold SLt; omega)).trans T12 | exact hp.trans T12
              refine ⟨fun c => ?_, fun c => ?_⟩
              · skip
                unfold j_X11_quarrel_165
                rintro _ rfl
                exact hK2 _ ⟨hJ, T12, rfl, rfl, (inc_b (by with_reducible assumption) (by decide) (by decide)), trivial⟩ (mu_lt (by with_reducible assumption) (by decide))
              · skip
                refine ⟨fun c => ?_, fun c => ?_⟩
                · skip
                  rintro _ rfl
                  unfold j_X11_quarrel_165
                  rintro _ rfl
                  exact hK2 _ ⟨hJ, T12, rfl, rfl, (inc_b (by with_reducible assumption) (by decide) (by decide)), trivial⟩ (mu_lt (by with_reducible assumption) (by decide))
                · skip
                  exact hJ
          · skip
            refine ⟨fun c => ?_, fun c => ?_⟩
            · skip
              exact hJ
            · skip
              exact hJ
        · skip
          have hb := bd_up (x := x3_1) (by with_reducible assumption) c hR_h_1.c1
          refine c_z (p_X11_isOf hR_h_1 (bd.mo (by with_reducible assumption) (by decide) (by decide)) ) ?_
          rintro r_54 _ _ ⟨rfl, rfl⟩
          refine ⟨fun c => ?_, fun c => ?_⟩
          · skip
            unfold j_X11_quarrel_97
            rintro _ rfl
            exact hK1 _ ⟨hJ, T12, rfl, rfl, (inc_b (by with_reducible assumption) (by decide) (by decide)), trivial⟩ (mu_lt (by with_reducible assumption) (by decide))
          · skip
            refine c_v (p_X11_lets hR_h_1 (bd.mo (by with_reducible assumption) (by decide) (by decide)) ) ?_
            rintro h_62 g_62 hJ2
            have hJ := hJ.tr (hJ2.mo (fun o k hq => by unfold SLt at hq; unfold SQu; omega))
            have hR_h_62 := hR.kj hJ (fun k => by unfold SQu; omega)
            have T12 : bd 1 100000 (h_62 135 12) := by first | (rw [hJ2 135 12 (by unfold SLt; omega)]; exact T12) | exact (hJ2.at 12 (by unfold SLt; omega)).trans T12 | exact hp.trans T12
            rintro _ rfl
            refine c_i (p_X11_numberFrom hR_h_62 T12) ?_
            rintro r_78 _ _ ⟨rfl, rfl⟩
            refine c_v (p_X11_tries hR_h_62 ) ?_
            rintro h_81 g_81 hJ2
            have hJ := hJ.tr (hJ2.mo (fun o k hq => by unfold STr at hq; unfold SQu; omega))
            have hR_h_81 := hR.kj hJ (fun k => by unfold SQu; omega)
            have T12 : bd 1 100000 (h_81 135 12) := by first | (rw [hJ2 135 12 (by unfold STr; omega)]; exact T12) | exact (hJ2.at 12 (by unfold STr; omega)).trans T12 | exact hp.trans T12
            refine c_i (p_X11_numberFrom hR_h_81 T12) ?_
            rintro r_91 _ _ ⟨rfl, rfl⟩
            refine c_v (p_X11_tries hR_h_81 ) ?_
            rintro h_94 g_94 hJ2
            have hJ := hJ.tr (hJ2.mo (fun o k hq => by unfold STr at hq; unfold SQu; omega))
            have hR_h_94 := hR.kj hJ (fun k => by unfold SQu; omega)
            have T12 : bd 1 100000 (h_94 135 12) := by first | (rw [hJ2 135 12 (by unfold STr; omega)]; exact T12) | exact (hJ2.at 12 (by unfold STr; omega)).trans T12 | exact hp.trans T12
            unfold j_X11_quarrel_97
            rintro _ rfl
            exact hK1 _ ⟨hJ, T12, rfl, rfl, (inc_b (by with_reducible assumption) (by decide) (by decide)), trivial⟩ (mu_lt (by with_reducible assumption) (by decide))
      · skip
        refine ⟨fun c => ?_, fun c => ?_⟩
        · skip
          unfold j_X11_quarrel_23
          refine c_v (p_X11_findFamily hR (bd.mo (by with_reducible assumption) (by decide) (by decide)) ) ?_
          rintro h_25 g_25 ⟨hJ2, T12⟩
          have hJ := hJ.tr (hJ2.mo (fun o k hq => by unfold SFm at hq; unfold SQu; omega))
          have hR_h_25 := hR.kj hJ (fun k => by unfold SQu; omega)
          intro h_30 e_h_30
          have T12 : bd 1 100000 (h_30 135 12) := by first | (rw [e_h_30, hu_ne (by first | decide | omega)]; exact T12) | (rw [e_h_30, hu_eq, pk_un (by decide)]; exact T12) | (rw [e_h_30, hua_ne (by decide)]; exact T12)
          have hJ := hJ.hu e_h_30 (by unfold SQu; omega)
          have hR_h_30 := hR.kj hJ (fun k => by unfold SQu; omega)
          refine c_v (p_X11_tries hR_h_30 ) ?_
          rintro h_36 g_36 hJ2
          have hJ := hJ.tr (hJ2.mo (fun o k hq => by unfold STr at hq; unfold SQu; omega))
          have hR_h_36 := hR.kj hJ (fun k => by unfold SQu; omega)
          have T12 : bd 1 100000 (h_36 135 12) := by first | (rw [hJ2 135 12 (by unfold STr; omega)]; exact T12) | exact (hJ2.at 12 (by unfold STr; omega)).trans T12 | exact hp.trans T12
          refine lpE_intro (fun ⟨x1_q, x2_q, x3_q, h_q, g_q⟩ => KJ (SQu) h h_q ∧ bd 1 100000 (h_q 135 12) ∧ x1 = x1_q ∧ x2 = x2_q ∧ 0 ≤ x3_q.toInt ∧ True) (fun ⟨x1_q, x2_q, x3_q, h_q, g_q⟩ => ((60 : Int) - x3_q.toInt).toNat) ?_ _ ⟨hJ, T12, rfl, rfl, ge0, trivial⟩
          rintro ⟨x1_3, x2_3, x3_3, h_3, g_3⟩ K3 ⟨hJ, T12, rfl, rfl, i3_0, -⟩ hK3
          unfold F_X11_quarrel_41; dsimp only; unfold b_X11_quarrel_41
          have hR_h_3 := hR.kj hJ (fun k => by unfold SQu; omega)
          refine and_have (by exact vp_in_iff.mpr (by decide)) (fun hv => ?_)
          refine ⟨fun c => ?_, fun c => ?_⟩
          · skip
            refine ⟨fun c => ?_, fun c => ?_⟩
            · skip
              refine lpE_intro (fun ⟨x1_q, x2_q, x3_q, x4_q, h_q, g_q⟩ => KJ (SQu) h h_q ∧ bd 1 100000 (h_q 135 12) ∧ x1 = x1_q ∧ x2 = x2_q ∧ 0 ≤ x4_q.toInt ∧ True) (fun ⟨x1_q, x2_q, x3_q, x4_q, h_q, g_q⟩ => ((60 : Int) - x4_q.toInt).toNat) ?_ _ ⟨hJ, T12, rfl, rfl, ge0, trivial⟩
              rintro ⟨x1_4, x2_4, x3_4, x4_4, h_4, g_4⟩ K4 ⟨hJ, T12, rfl, rfl, i4_0, -⟩ hK4
              unfold F_X11_quarrel_129; dsimp only; unfold b_X11_quarrel_129
              have hR_h_4 := hR.kj hJ (fun k => by unfold SQu; omega)
              refine and_have (by exact vp_in_iff.mpr (by decide)) (fun hv => ?_)
              refine ⟨fun c => ?_, fun c => ?_⟩
              · skip
                exact hJ
              · skip
                have hb := bd_up (x := x4_4) (by with_reducible assumption) c hR_h_4.c1
                refine c_z (p_X11_quarrels hR_h_4 (bd.mo (by with_reducible assumption) (by decide) (by decide)) ) ?_
                rintro r_148 h_148 g_148 hJ2
                have hJ := hJ.tr (hJ2.mo (fun o k hq => by unfold SLt at hq; unfold SQu; omega))
                have hR_h_148 := hR.kj hJ (fun k => by unfold SQu; omega)
                have T12 : bd 1 100000 (h_148 135 12) := by first | (rw [hJ2 135 12 (by unfold SLt; omega)]; exact T12) | exact (hJ2.at 12 (by unfold SLt; omega)).trans T12 | exact hp.trans T12
                refine ⟨fun c => ?_, fun c => ?_⟩
                · skip
                  unfold j_X11_quarrel_165
                  rintro _ rfl
                  exact hK4 _ ⟨hJ, T12, rfl, rfl, (inc_b (by with_reducible assumption) (by decide) (by decide)), trivial⟩ (mu_lt (by with_reducible assumption) (by decide))
                · skip
                  refine ⟨fun c => ?_, fun c => ?_⟩
                  · skip
                    rintro _ rfl
                    unfold j_X11_quarrel_165
                    rintro _ rfl
                    exact hK4 _ ⟨hJ, T12, rfl, rfl, (inc_b (by with_reducible assumption) (by decide) (by decide)), trivial⟩ (mu_lt (by with_reducible assumption) (by decide))
                  · skip
                    exact hJ
            · skip
              refine ⟨fun c => ?_, fun c => ?_⟩
              · skip
                exact hJ
              · skip
                exact hJ
          · skip
            have hb := bd_up (x := x3_3) (by with_reducible assumption) c hR_h_3.c1
            refine c_z (p_X11_isOf hR_h_3 (bd.mo (by with_reducible assumption) (by decide) (by decide)) ) ?_
            rintro r_54 _ _ ⟨rfl, rfl⟩
            refine ⟨fun c => ?_, fun c => ?_⟩
            · skip
              unfold j_X11_quarrel_97
              rintro _ rfl
              exact hK3 _ ⟨hJ, T12, rfl, rfl, (inc_b (by with_reducible assumption) (by decide) (by decide)), trivial⟩ (mu_lt (by with_reducible assumption) (by decide))
            · skip
              refine c_v (p_X11_lets hR_h_3 (bd.mo (by with_reducible assumption) (by decide) (by decide)) ) ?_
              rintro h_62 g_62 hJ2
              have hJ := hJ.tr (hJ2.mo (fun o k hq => by unfold SLt at hq; unfold SQu; omega))
              have hR_h_62 := hR.kj hJ (fun k => by unfold SQu; omega)
              have T12 : bd 1 100000 (h_62 135 12) := by first | (rw [hJ2 135 12 (by unfold SLt; omega)]; exact T12) | exact (hJ2.at 12 (by unfold SLt; omega)).trans T12 | exact hp.trans T12
              rintro _ rfl
              refine c_i (p_X11_numberFrom hR_h_62 T12) ?_
              rintro r_78 _ _ ⟨rfl, rfl⟩
              refine c_v (p_X11_tries hR_h_62 ) ?_
              rintro h_81 g_81 hJ2
              have hJ := hJ.tr (hJ2.mo (fun o k hq => by unfold STr at hq; unfold SQu; omega))
              have hR_h_81 := hR.kj hJ (fun k => by unfold SQu; omega)
              have T12 : bd 1 100000 (h_81 135 12) := by first | (rw [hJ2 135 12 (by unfold STr; omega)]; exact T12) | exact (hJ2.at 12 (by unfold STr; omega)).trans T12 | exact hp.trans T12
              refine c_i (p_X11_numberFrom hR_h_81 T12) ?_
              rintro r_91 _ _ ⟨rfl, rfl⟩
              refine c_v (p_X11_tries hR_h_81 ) ?_
              rintro h_94 g_94 hJ2
              have hJ := hJ.tr (hJ2.mo (fun o k hq => by unfold STr at hq; unfold SQu; omega))
              have hR_h_94 := hR.kj hJ (fun k => by unfold SQu; omega)
              have T12 : bd 1 100000 (h_94 135 12) := by first | (rw [hJ2 135 12 (by unfold STr; omega)]; exact T12) | exact (hJ2.at 12 (by unfold STr; omega)).trans T12 | exact hp.trans T12
              unfold j_X11_quarrel_97
              rintro _ rfl
              exact hK3 _ ⟨hJ, T12, rfl, rfl, (inc_b (by with_reducible assumption) (by decide) (by decide)), trivial⟩ (mu_lt (by with_reducible assumption) (by decide))
        · skip
          exact hJ
  · skip
    refine ⟨fun c => ?_, fun c => ?_⟩
    · skip
      exact hJ
    · exact absN c
theorem p_X11_has {h : HI} {g : HL} (hR : RI (h 136)) {x1 : Int32} {x2 : Int32} (b_x1 : bd (0) (15) x1)  : w_X11_has x1 x2 h g (fun r h' g' => h = h' ∧ g = g') := by
  unfold w_X11_has
  refine lpE_intro (fun ⟨x1_q, x2_q, x3_q, h_q, g_q⟩ => x1 = x1_q ∧ x2 = x2_q ∧ h = h_q ∧ g = g_q ∧ 0 ≤ x3_q.toInt ∧ True) (fun ⟨x1_q, x2_q, x3_q, h_q, g_q⟩ => ((6 : Int) - x3_q.toInt).toNat) ?_ _ ⟨rfl, rfl, rfl, rfl, ge0, trivial⟩
  rintro ⟨x1_1, x2_1, x3_1, h_1, g_1⟩ K1 ⟨rfl, rfl, rfl, rfl, i1_0, -⟩ hK1
  unfold F_X11_has_2; dsimp only; unfold b_X11_has_2
  refine c_i (p_X11_chainOf hR (bd.mo (by with_reducible assumption) (by decide) (by decide)) (bd.mo (bd_lit (n := 2) (by decide)) (by decide) (by decide)) ) ?_
  rintro _ _ _ ⟨rfl, rfl, rfl⟩
  refine ⟨fun c => ?_, fun c => ?_⟩
  · skip
    exact ⟨rfl, rfl⟩
  · skip
    have hb := bd_up (x := x3_1) (by with_reducible assumption) c (hR.cm (bd.mo (by with_reducible assumption) (by decide) (by decide : _ ≤ (15 : Int))))
    refine c_i (p_X11_chainOf hR (bd.mo (by with_reducible assumption) (by decide) (by decide)) (bd.mo (bd_add (bd_lit (n := 3) (by decide)) (by with_reducible assumption) (by decide) (by decide)) (by decide) (by decide)) ) ?_
    rintro _ _ _ ⟨rfl, rfl, rfl⟩
    refine ⟨fun c => ?_, fun c => ?_⟩
    · skip
      rintro _ rfl
      exact hK1 _ ⟨rfl, rfl, rfl, rfl, (inc_b (by with_reducible assumption) (by decide) (by decide)), trivial⟩ (mu_lt (by with_reducible assumption) (by decide))
    · skip
      exact ⟨rfl, rfl⟩
theorem p_X11_sums {h : HI} {g : HL} (hR : RI (h 136)) {x1 : Int32} {x2 : Int32} {x3 : Int32} {x4 : Int32} (b_x1 : bd (0) (15) x1) (hpq : bd 0 23 x3 ∨ x4 = -2) : w_X11_sums x1 x2 x3 x4 h g (fun r h' g' => KJ (SSm) h h') := by
  unfold w_X11_sums
  have hJ : KJ (SSm) h h := KJ.rf
  intro h_2 e_h_2
  have hJ := hJ.hu e_h_2 (by unfold SSm; omega)
  have hR_h_2 := hR.kj hJ (fun k => by unfold SSm; omega)
  intro h_7 e_h_7
  have hJ := hJ.hu e_h_7 (by unfold SSm; omega)
  have hR_h_7 := hR.kj hJ (fun k => by unfold SSm; omega)
  refine lpE_intro (fun ⟨x1_q, x2_q, x3_q, x4_q, x5_q, h_q, g_q⟩ => KJ (SSm) h h_q ∧ x1 = x1_q ∧ x2 = x2_q ∧ x3 = x3_q ∧ x4 = x4_q ∧ 0 ≤ x5_q.toInt ∧ True) (fun ⟨x1_q, x2_q, x3_q, x4_q, x5_q, h_q, g_q⟩ => ((6 : Int) - x5_q.toInt).toNat) ?_ _ ⟨hJ, rfl, rfl, rfl, rfl, ge0, trivial⟩
  rintro ⟨x1_1, x2_1, x3_1, x4_1, x5_1, h_1, g_1⟩ K1 ⟨hJ, rfl, rfl, rfl, rfl, i1_0, -⟩ hK1
  unfold F_X11_sums_13; dsimp only; unfold b_X11_sums_13
  have hR_h_1 := hR.kj hJ (fun k => by unfold SSm; omega)
  refine c_i (p_X11_chainOf hR_h_1 (bd.mo (by with_reducible assumption) (by decide) (by decide)) (bd.mo (bd_lit (n := 2) (by decide)) (by decide) (by decide)) ) ?_
  rintro _ _ _ ⟨rfl, rfl, rfl⟩
  refine ⟨fun c => ?_, fun c => ?_⟩
  · skip
    exact hJ
  · skip
    have hb := bd_up (x := x5_1) (by with_reducible assumption) c (hR_h_1.cm (bd.mo (by with_reducible assumption) (by decide) (by decide : _ ≤ (15 : Int))))
    refine c_i (p_X11_chainOf hR_h_1 (bd.mo (by with_reducible assumption) (by decide) (by decide)) (bd.mo (bd_add (bd_lit (n := 3) (by decide)) (by with_reducible assumption) (by decide) (by decide)) (by decide) (by decide)) ) ?_
    rintro _ _ _ ⟨rfl, rfl, rfl⟩
    refine ⟨fun c => ?_, fun c => ?_⟩
    · skip
      refine c_i (p_X11_chainOf hR_h_1 (bd.mo (by with_reducible assumption) (by decide) (by decide)) (bd.mo (bd_add (bd_lit (n := 3) (by decide)) (by with_reducible assumption) (by decide) (by decide)) (by decide) (by decide)) ) ?_
      rintro _ _ _ ⟨rfl, rfl, rfl⟩
      unfold j_X11_sums_51
      refine c_i (p_X11_firstOf hR_h_1 (bd.mo (hR_h_1.cf (bd.mo (by with_reducible assumption) (by decide) (by decide : _ ≤ (15 : Int))) (bd.mo (by with_reducible assumption) (by decide) (by decide : _ ≤ (5 : Int)))) (by decide) (by decide)) ) ?_
      rintro r_57 h_57 g_57 hJ2
      have hJ := hJ.tr (hJ2.mo (fun o k hq => by unfold SFf at hq; unfold SSm; omega))
      have hR_h_57 := hR.kj hJ (fun k => by unfold SSm; omega)
      refine ⟨fun c => ?_, fun c => ?_⟩
      · skip
        refine c_i (p_X11_wornOf hR_h_57 (bd.mo (hR_h_1.cf (bd.mo (by with_reducible assumption) (by decide) (by decide : _ ≤ (15 : Int))) (bd.mo (by with_reducible assumption) (by decide) (by decide : _ ≤ (5 : Int)))) (by decide) (by decide)) ) ?_
        rintro r_74 h_74 g_74 hJ2
        have hJ := hJ.tr (hJ2.mo (fun o k hq => by unfold SRd at hq; unfold SSm; omega))
        have hR_h_74 := hR.kj hJ (fun k => by unfold SSm; omega)
        refine c_i (p_X11_firstOf hR_h_74 (bd.mo (hR_h_1.cf (bd.mo (by with_reducible assumption) (by decide) (by decide : _ ≤ (15 : Int))) (bd.mo (by with_reducible assumption) (by decide) (by decide : _ ≤ (5 : Int)))) (by decide) (by decide)) ) ?_
        rintro r_83 h_83 g_83 hJ2
        have hJ := hJ.tr (hJ2.mo (fun o k hq => by unfold SFf at hq; unfold SSm; omega))
        have hR_h_83 := hR.kj hJ (fun k => by unfold SSm; omega)
        rintro _ rfl
        rintro _ rfl
        refine c_i (p_X11_chainOf hR_h_83 (bd.mo (by with_reducible assumption) (by decide) (by decide)) (bd.mo (bd_lit (n := 9) (by decide)) (by decide) (by decide)) ) ?_
        rintro _ _ _ ⟨rfl, rfl, rfl⟩
        refine ⟨fun c => ?_, fun c => ?_⟩
        · skip
          unfold j_X11_sums_119
          refine ⟨fun c => ?_, fun c => ?_⟩
          · skip
            unfold j_X11_sums_139
            intro h_140 e_h_140
            have hJ := hJ.hu e_h_140 (by unfold SSm; omega)
            have hR_h_140 := hR.kj hJ (fun k => by unfold SSm; omega)
            refine ⟨fun c => ?_, fun c => ?_⟩
            · skip
              unfold j_X11_sums_161
              intro h_162 e_h_162
              have hJ := hJ.hu e_h_162 (by unfold SSm; omega)
              have hR_h_162 := hR.kj hJ (fun k => by unfold SSm; omega)
              rintro _ rfl
              exact hK1 _ ⟨hJ, rfl, rfl, rfl, rfl, (inc_b (by with_reducible assumption) (by decide) (by decide)), trivial⟩ (mu_lt (by with_reducible assumption) (by decide))
            · exact absN c
          · exact absN c
        · skip
          unfold j_X11_sums_119
          refine ⟨fun c => ?_, fun c => ?_⟩
          · exact absI c
          · skip
            unfold j_X11_sums_139
            intro h_140 e_h_140
            have hJ := hJ.hu e_h_140 (by unfold SSm; omega)
            have hR_h_140 := hR.kj hJ (fun k => by unfold SSm; omega)
            refine ⟨fun c => ?_, fun c => ?_⟩
            · exact absI c
            · skip
              unfold j_X11_sums_161
              intro h_162 e_h_162
              have hJ := hJ.hu e_h_162 (by unfold SSm; omega)
              have hR_h_162 := hR.kj hJ (fun k => by unfold SSm; omega)
              rintro _ rfl
              exact hK1 _ ⟨hJ, rfl, rfl, rfl, rfl, (inc_b (by with_reducible assumption) (by decide) (by decide)), trivial⟩ (mu_lt (by with_reducible assumption) (by decide))
      · skip
        exact hJ
    · skip
      have hx3 : bd 0 23 x3 := sm_p hpq c (hR_h_1.cf (bd.mo (by with_reducible assumption) (by decide) (by decide : _ ≤ (15 : Int))) (bd.mo (by with_reducible assumption) (by decide) (by decide : _ ≤ (5 : Int))))
      unfold j_X11_sums_51
      refine c_i (p_X11_firstOf hR_h_1 (bd.mo (by with_reducible assumption) (by decide) (by decide)) ) ?_
      rintro r_57 h_57 g_57 hJ2
      have hJ := hJ.tr (hJ2.mo (fun o k hq => by unfold SFf at hq; unfold SSm; omega))
      have hR_h_57 := hR.kj hJ (fun k => by unfold SSm; omega)
      refine ⟨fun c => ?_, fun c => ?_⟩
      · skip
        refine c_i (p_X11_wornOf hR_h_57 (bd.mo (by with_reducible assumption) (by decide) (by decide)) ) ?_
        rintro r_74 h_74 g_74 hJ2
        have hJ := hJ.tr (hJ2.mo (fun o k hq => by unfold SRd at hq; unfold SSm; omega))
        have hR_h_74 := hR.kj hJ (fun k => by unfold SSm; omega)
        refine c_i (p_X11_firstOf hR_h_74 (bd.mo (by with_reducible assumption) (by decide) (by decide)) ) ?_
        rintro r_83 h_83 g_83 hJ2
        have hJ := hJ.tr (hJ2.mo (fun o k hq => by unfold SFf at hq; unfold SSm; omega))
        have hR_h_83 := hR.kj hJ (fun k => by unfold SSm; omega)
        rintro _ rfl
        rintro _ rfl
        refine c_i (p_X11_chainOf hR_h_83 (bd.mo (by with_reducible assumption) (by decide) (by decide)) (bd.mo (bd_lit (n := 9) (by decide)) (by decide) (by decide)) ) ?_
        rintro _ _ _ ⟨rfl, rfl, rfl⟩
        refine ⟨fun c => ?_, fun c => ?_⟩
        · skip
          unfold j_X11_sums_119
          refine ⟨fun c => ?_, fun c => ?_⟩
          · skip
            unfold j_X11_sums_139
            intro h_140 e_h_140
            have hJ := hJ.hu e_h_140 (by unfold SSm; omega)
            have hR_h_140 := hR.kj hJ (fun k => by unfold SSm; omega)
            refine ⟨fun c => ?_, fun c => ?_⟩
            · skip
              unfold j_X11_sums_161
              intro h_162 e_h_162
              have hJ := hJ.hu e_h_162 (by unfold SSm; omega)
              have hR_h_162 := hR.kj hJ (fun k => by unfold SSm; omega)
              rintro _ rfl
              exact hK1 _ ⟨hJ, rfl, rfl, rfl, rfl, (inc_b (by with_reducible assumption) (by decide) (by decide)), trivial⟩ (mu_lt (by with_reducible assumption) (by decide))
            · exact absN c
          · exact absN c
        · skip
          unfold j_X11_sums_119
          refine ⟨fun c => ?_, fun c => ?_⟩
          · exact absI c
          · skip
            unfold j_X11_sums_139
            intro h_140 e_h_140
            have hJ := hJ.hu e_h_140 (by unfold SSm; omega)
            have hR_h_140 := hR.kj hJ (fun k => by unfold SSm; omega)
            refine ⟨fun c => ?_, fun c => ?_⟩
            · exact absI c
            · skip
              unfold j_X11_sums_161
              intro h_162 e_h_162
              have hJ := hJ.hu e_h_162 (by unfold SSm; omega)
              have hR_h_162 := hR.kj hJ (fun k => by unfold SSm; omega)
              rintro _ rfl
              exact hK1 _ ⟨hJ, rfl, rfl, rfl, rfl, (inc_b (by with_reducible assumption) (by decide) (by decide)), trivial⟩ (mu_lt (by with_reducible assumption) (by decide))
      · skip
        exact hJ
theorem p_X11_holds0 {h : HI} {g : HL} (hR : RI (h 136)) {x1 : Int32} {x2 : Int32} {x3 : Int32} {x4 : Int32} (b_x1 : bd (0) (15) x1) (hpq : bd 0 23 x3 ∨ x4 = -2) : w_X11_holds0 x1 x2 x3 x4 h g (fun r h' g' => KJ (SSm) h h') := by
  unfold w_X11_holds0
  have hJ : KJ (SSm) h h := KJ.rf
  refine c_z (p_X11_sums hR (bd.mo (by with_reducible assumption) (by decide) (by decide)) (by first | exact .inr rfl | exact hpq | exact .inl (bd.mo (by with_reducible assumption) (by decide) (by decide)))) ?_
  rintro r_6 h_6 g_6 hJ2
  have hJ := hJ.tr (hJ2)
  have hR_h_6 := hR.kj hJ (fun k => by unfold SSm; omega)
  refine ⟨fun c => ?_, fun c => ?_⟩
  · skip
    exact hJ
  · skip
    refine c_i (p_X11_chainOf hR_h_6 (bd.mo (by with_reducible assumption) (by decide) (by decide)) (bd.mo (bd_lit (n := 0) (by decide)) (by decide) (by decide)) ) ?_
    rintro _ _ _ ⟨rfl, rfl, rfl⟩
    refine ⟨fun c => ?_, fun c => ?_⟩
    · skip
      exact hJ
    · skip
      refine c_i (p_X11_chainOf hR_h_6 (bd.mo (by with_reducible assumption) (by decide) (by decide)) (bd.mo (bd_lit (n := 1) (by decide)) (by decide) (by decide)) ) ?_
      rintro _ _ _ ⟨rfl, rfl, rfl⟩
      refine ⟨fun c => ?_, fun c => ?_⟩
      · skip
        exact hJ
      · skip
        exact hJ
theorem p_X11_sum {h : HI} {g : HL} (hR : RI (h 136)) {x1 : Int32} {x2 : Int32} {x3 : Int32}   : w_X11_sum x1 x2 x3 h g (fun r h' g' => KJ (SSm) h h') := by
  unfold w_X11_sum
  have hJ : KJ (SSm) h h := KJ.rf
  refine c_is (vp_in_iff.mpr (by decide)) hR.c2 (by decide) (fun q q1 => ?_) (fun q => ?_)
  · skip
    refine ⟨fun c => ?_, fun c => ?_⟩
    · exact absI c
    · skip
      refine c_yr (fun q => ?_) (fun q => ?_)
      · skip
        refine ⟨fun c => ?_, fun c => ?_⟩
        · exact absI c
        · skip
          refine c_in3 (fun q => ?_) (fun q => ?_)
          · skip
            refine ⟨fun c => ?_, fun c => ?_⟩
            · skip
              refine ⟨fun c => ?_, fun c => ?_⟩
              · skip
                refine c_z (p_X11_sums hR (bd.mo (by with_reducible assumption) (by decide) (by decide)) (by first | exact .inr rfl | exact hpq | exact .inl (bd.mo (by with_reducible assumption) (by decide) (by decide)))) ?_
                rintro r_60 h_60 g_60 hJ2
                have hJ := hJ.tr (hJ2)
                have hR_h_60 := hR.kj hJ (fun k => by unfold SSm; omega)
                refine ⟨fun c => ?_, fun c => ?_⟩
                · skip
                  refine ⟨fun c => ?_, fun c => ?_⟩
                  · skip
                    exact hJ
                  · skip
                    exact hJ
                · skip
                  exact hJ
              · skip
                refine c_z (p_X11_holds0 hR (bd.mo (by with_reducible assumption) (by decide) (by decide)) (by first | exact .inr rfl | exact hpq | exact .inl (bd.mo (by with_reducible assumption) (by decide) (by decide)))) ?_
                rintro r_42 h_42 g_42 hJ2
                have hJ := hJ.tr (hJ2)
                have hR_h_42 := hR.kj hJ (fun k => by unfold SSm; omega)
                refine ⟨fun c => ?_, fun c => ?_⟩
                · skip
                  exact hJ
                · skip
                  exact hJ
            · exact absI c
          · skip
            refine ⟨fun c => ?_, fun c => ?_⟩
            · exact absN c
            · skip
              exact hJ
      · skip
        refine ⟨fun c => ?_, fun c => ?_⟩
        · skip
          exact hJ
        · exact absN c
  · skip
    refine ⟨fun c => ?_, fun c => ?_⟩
    · skip
      exact hJ
    · exact absN c
theorem p_X11_stands {h : HI} {g : HL} (hR : RI (h 136)) {x1 : Int32} {x2 : Int32} {x3 : Int32}   : w_X11_stands x1 x2 x3 h g (fun r h' g' => KJ (SSm) h h') := by
  unfold w_X11_stands
  have hJ : KJ (SSm) h h := KJ.rf
  refine c_is (vp_in_iff.mpr (by decide)) hR.c0 (by decide) (fun q q1 => ?_) (fun q => ?_)
  · skip
    refine ⟨fun c => ?_, fun c => ?_⟩
    · exact absI c
    · skip
      refine c_is (vp_in_iff.mpr (by decide)) hR.c0 (by decide) (fun q q1 => ?_) (fun q => ?_)
      · skip
        refine ⟨fun c => ?_, fun c => ?_⟩
        · exact absI c
        · skip
          refine ⟨fun c => ?_, fun c => ?_⟩
          · skip
            exact hJ
          · skip
            refine c_yr (fun q => ?_) (fun q => ?_)
            · skip
              refine ⟨fun c => ?_, fun c => ?_⟩
              · skip
                refine lpE_intro (fun ⟨x1_q, x2_q, x3_q, x4_q, h_q, g_q⟩ => KJ (SSm) h h_q ∧ x1 = x1_q ∧ x2 = x2_q ∧ x3 = x3_q ∧ 0 ≤ x4_q.toInt ∧ True) (fun ⟨x1_q, x2_q, x3_q, x4_q, h_q, g_q⟩ => ((16 : Int) - x4_q.toInt).toNat) ?_ _ ⟨hJ, rfl, rfl, rfl, ge0, trivial⟩
                rintro ⟨x1_1, x2_1, x3_1, x4_1, h_1, g_1⟩ K1 ⟨hJ, rfl, rfl, rfl, i1_0, -⟩ hK1
                unfold F_X11_stands_36; dsimp only; unfold b_X11_stands_36
                have hR_h_1 := hR.kj hJ (fun k => by unfold SSm; omega)
                refine and_have (by exact vp_in_iff.mpr (by decide)) (fun hv => ?_)
                refine ⟨fun c => ?_, fun c => ?_⟩
                · skip
                  exact hJ
                · skip
                  have hb := bd_up (x := x4_1) (by with_reducible assumption) c hR_h_1.c2
                  refine c_z (p_X11_has hR_h_1 (bd.mo (by with_reducible assumption) (by decide) (by decide)) ) ?_
                  rintro r_51 _ _ ⟨rfl, rfl⟩
                  refine ⟨fun c => ?_, fun c => ?_⟩
                  · skip
                    unfold j_X11_stands_81
                    rintro _ rfl
                    exact hK1 _ ⟨hJ, rfl, rfl, rfl, (inc_b (by with_reducible assumption) (by decide) (by decide)), trivial⟩ (mu_lt (by with_reducible assumption) (by decide))
                  · skip
                    refine c_z (p_X11_has hR_h_1 (bd.mo (by with_reducible assumption) (by decide) (by decide)) ) ?_
                    rintro r_61 _ _ ⟨rfl, rfl⟩
                    refine ⟨fun c => ?_, fun c => ?_⟩
                    · skip
                      exact hJ
                    · skip
                      refine c_z (p_X11_holds0 hR_h_1 (bd.mo (by with_reducible assumption) (by decide) (by decide)) (by first | exact .inr rfl | exact hpq | exact .inl (bd.mo (by with_reducible assumption) (by decide) (by decide)))) ?_
                      rintro r_73 h_73 g_73 hJ2
                      have hJ := hJ.tr (hJ2)
                      have hR_h_73 := hR.kj hJ (fun k => by unfold SSm; omega)
                      refine ⟨fun c => ?_, fun c => ?_⟩
                      · skip
                        unfold j_X11_stands_81
                        rintro _ rfl
                        exact hK1 _ ⟨hJ, rfl, rfl, rfl, (inc_b (by with_reducible assumption) (by decide) (by decide)), trivial⟩ (mu_lt (by with_reducible assumption) (by decide))
                      · skip
                        exact hJ
              · exact absI c
            · skip
              refine ⟨fun c => ?_, fun c => ?_⟩
              · exact absN c
              · skip
                exact hJ
      · skip
        refine ⟨fun c => ?_, fun c => ?_⟩
        · skip
          exact hJ
        · exact absN c
  · skip
    refine ⟨fun c => ?_, fun c => ?_⟩
    · skip
      exact hJ
    · exact absN c
theorem p_X11_life {h : HI} {g : HL} (hR : RI (h 136)) {x1 : Int32} {x2 : Int32}   : w_X11_life x1 x2 h g (fun r h' g' => KJ (SSm) h h') := by
  unfold w_X11_life
  have hJ : KJ (SSm) h h := KJ.rf
  refine c_is (vp_in_iff.mpr (by decide)) hR.c2 (by decide) (fun q q1 => ?_) (fun q => ?_)
  · skip
    refine ⟨fun c => ?_, fun c => ?_⟩
    · exact absI c
    · skip
      refine c_yr (fun q => ?_) (fun q => ?_)
      · skip
        refine ⟨fun c => ?_, fun c => ?_⟩
        · skip
          refine lpE_intro (fun ⟨x1_q, x2_q, x3_q, h_q, g_q⟩ => KJ (SSm) h h_q ∧ x1 = x1_q ∧ x2 = x2_q ∧ (0 ≤ x3_q.toInt ∧ x3_q.toInt ≤ 100) ∧ True) (fun ⟨x1_q, x2_q, x3_q, h_q, g_q⟩ => ((100 : Int) - x3_q.toInt).toNat) ?_ _ ⟨hJ, rfl, rfl, ⟨ge0, by decide⟩, trivial⟩
          rintro ⟨x1_1, x2_1, x3_1, h_1, g_1⟩ K1 ⟨hJ, rfl, rfl, i1_0, -⟩ hK1
          unfold F_X11_life_21; dsimp only; unfold b_X11_life_21
          have hR_h_1 := hR.kj hJ (fun k => by unfold SSm; omega)
          refine ⟨fun c => ?_, fun c => ?_⟩
          · skip
            exact hJ
          · skip
            have hb := lf_b (by with_reducible assumption) i1_0 c
            refine c_z (p_X11_holds0 hR_h_1 (bd.mo (by with_reducible assumption) (by decide) (by decide)) (by first | exact .inr rfl | exact hpq | exact .inl (bd.mo (by with_reducible assumption) (by decide) (by decide)))) ?_
            rintro r_37 h_37 g_37 hJ2
            have hJ := hJ.tr (hJ2)
            have hR_h_37 := hR.kj hJ (fun k => by unfold SSm; omega)
            refine ⟨fun c => ?_, fun c => ?_⟩
            · skip
              exact hJ
            · skip
              rintro _ rfl
              exact hK1 _ ⟨hJ, rfl, rfl, ⟨inc_b (by with_reducible assumption) (by decide) (by decide), inc_b2 (by with_reducible assumption)⟩, trivial⟩ (mu_lt (by with_reducible assumption) (by decide))
        · exact absI c
      · skip
        refine ⟨fun c => ?_, fun c => ?_⟩
        · exact absN c
        · skip
          exact hJ
  · skip
    refine ⟨fun c => ?_, fun c => ?_⟩
    · skip
      exact hJ
    · exact absN c
theorem p_X11_worn {h : HI} {g : HL} (hR : RI (h 136)) {x1 : Int32} {x2 : Int32}   : w_X11_worn x1 x2 h g (fun r h' g' => KJ (SRd) h h') := by
  unfold w_X11_worn
  have hJ : KJ (SRd) h h := KJ.rf
  refine c_is (vp_in_iff.mpr (by decide)) hR.c0 (by decide) (fun q q1 => ?_) (fun q => ?_)
  · skip
    refine ⟨fun c => ?_, fun c => ?_⟩
    · exact absI c
    · skip
      refine c_yr (fun q => ?_) (fun q => ?_)
      · skip
        refine ⟨fun c => ?_, fun c => ?_⟩
        · exact absI c
        · skip
          refine c_i (p_X11_wornOf hR (bd.mo (by with_reducible assumption) (by decide) (by decide)) ) ?_
          rintro r_19 h_19 g_19 hJ2
          have hJ := hJ.tr (hJ2)
          have hR_h_19 := hR.kj hJ (fun k => by unfold SRd; omega)
          exact hJ
      · skip
        refine ⟨fun c => ?_, fun c => ?_⟩
        · skip
          exact hJ
        · exact absN c
  · skip
    refine ⟨fun c => ?_, fun c => ?_⟩
    · skip
      exact hJ
    · exact absN c
theorem p_X11_fault {h : HI} {g : HL} (hR : RI (h 136))    : w_X11_fault h g (fun r h' g' => KJ (SRd) h h') := by
  unfold w_X11_fault
  have hJ : KJ (SRd) h h := KJ.rf
  refine c_i (p_X11_reads hR ) ?_
  rintro r_1 h_1 g_1 ⟨hJ2, _⟩
  have hJ := hJ.tr (hJ2)
  have hR_h_1 := hR.kj hJ (fun k => by unfold SRd; omega)
  exact hJ
theorem p_X11_denied {h : HI} {g : HL} (hR : RI (h 136))    : w_X11_denied h g (fun r h' g' => h = h' ∧ g = g') := by
  unfold w_X11_denied
  refine lpE_intro (fun ⟨x1_q, x2_q, h_q, g_q⟩ => h = h_q ∧ g = g_q ∧ 0 ≤ x2_q.toInt ∧ True) (fun ⟨x1_q, x2_q, h_q, g_q⟩ => ((60 : Int) - x2_q.toInt).toNat) ?_ _ ⟨rfl, rfl, ge0, trivial⟩
  rintro ⟨x1_1, x2_1, h_1, g_1⟩ K1 ⟨rfl, rfl, i1_0, -⟩ hK1
  unfold F_X11_denied_4; dsimp only; unfold b_X11_denied_4
  refine and_have (by exact vp_in_iff.mpr (by decide)) (fun hv => ?_)
  refine ⟨fun c => ?_, fun c => ?_⟩
  · skip
    exact ⟨rfl, rfl⟩
  · skip
    have hb := bd_up (x := x2_1) (by with_reducible assumption) c hR.c1
    refine c_i (p_X11_sayOf hR (bd.mo (by with_reducible assumption) (by decide) (by decide)) (bd.mo (bd_lit (n := 5) (by decide)) (by decide) (by decide)) ) ?_
    rintro _ _ _ ⟨rfl, rfl, rfl⟩
    rintro _ rfl
    rintro _ rfl
    exact hK1 _ ⟨rfl, rfl, (inc_b (by with_reducible assumption) (by decide) (by decide)), trivial⟩ (mu_lt (by with_reducible assumption) (by decide))
theorem p_X11_countOf {h : HI} {g : HL} (hR : RI (h 136)) {x1 : Int32} (b_x1 : bd (0) (9) x1)  : w_X11_countOf x1 h g (fun r h' g' => h = h' ∧ g = g') := by
  unfold w_X11_countOf
  refine ⟨fun c => ?_, fun c => ?_⟩
  · skip
    have hq2 := bd_2 c b_x1
    refine ⟨fun c => ?_, fun c => ?_⟩
    · skip
      refine and_have (by exact vp_bd (bd_sub (by with_reducible assumption) (bd_lit (n := 1) (by decide)) (by decide) (by decide)) (by decide) (by decide)) (fun hv => ?_)
      exact ⟨rfl, rfl⟩
    · skip
      refine c_i (p_X11_denied hR ) ?_
      rintro r_20 _ _ ⟨rfl, rfl⟩
      exact ⟨rfl, rfl⟩
  · skip
    refine and_have (by exact vp_bd (by with_reducible assumption) (by decide) (by decide)) (fun hv => ?_)
    exact ⟨rfl, rfl⟩
theorem p_X11_count {h : HI} {g : HL} (hR : RI (h 136)) {x1 : Int32}   : w_X11_count x1 h g (fun r h' g' => h = h' ∧ g = g') := by
  unfold w_X11_count
  refine c_in3 (fun q => ?_) (fun q => ?_)
  · skip
    refine ⟨fun c => ?_, fun c => ?_⟩
    · exact absI c
    · skip
      refine c_i (p_X11_countOf hR (bd.mo (by with_reducible assumption) (by decide) (by decide)) ) ?_
      rintro r_14 _ _ ⟨rfl, rfl⟩
      exact ⟨rfl, rfl⟩
  · skip
    refine ⟨fun c => ?_, fun c => ?_⟩
    · skip
      exact ⟨rfl, rfl⟩
    · exact absN c
end
section
-- 36.ref2
/-! ODDS of the reference -/
def isRow (c x : Int32) : Prop := 0 ≤ x.toInt ∧ x.toInt < c.toInt
theorem isRow_r {c x : Int32} {N : Int} (q : bd 0 N x) (q1 : ¬ c ≤ x) : isRow c x := by
  rw [Int32.le_iff_toInt_le] at q1
  unfold isRow; unfold bd at q; omega
theorem isRow_n {c x : Int32} (q : x < 0 ∨ c ≤ x) : ¬ isRow c x := by
  rw [Int32.lt_iff_toInt_lt, Int32.le_iff_toInt_le, show (0 : Int32).toInt = 0 by decide] at q
  unfold isRow; omega
theorem isRow_c {c x : Int32} (q : ¬ x < 0) (q1 : ¬ c ≤ x) : isRow c x := by
  rw [Int32.lt_iff_toInt_lt, show (0 : Int32).toInt = 0 by decide] at q
  rw [Int32.le_iff_toInt_le] at q1
  unfold isRow; omega
def whN (f : Nat → Int32) (x1 : Int32) : Nat := 1000 - ((f 9).toNatClampNeg + (f 10).toNatClampNeg * (f (((20 : Int32) + ((5 : Int32) * x1)) + (0 : Int32)).toNatClampNeg).toNatClampNeg)
theorem p_X11_whole {h : HI} {g : HL} (hR : RI (h 136)) {x1 : Int32} (b_x1 : bd 0 23 x1) : w_X11_whole x1 h g (fun r h' g' => h = h' ∧ g = g' ∧ nI (whN (h 136) x1) = r ∧ 1 ≤ whN (h 136) x1 ∧ whN (h 136) x1 ≤ 1000) := by
  unfold w_X11_whole
  refine and_have (vp_in_iff.mpr (by decide)) (fun _ => and_have (vp_in_iff.mpr (by decide)) (fun _ => ?_))
  refine c_i (p_X11_partOf hR b_x1 ((bd_lit (n := 0) (by decide)).mo (by decide) (by decide))) ?_
  rintro _ _ _ ⟨rfl, rfl, rfl⟩
  obtain ⟨a, ha, ha2, ea⟩ := bd_nI hR.c9
  obtain ⟨b, hb, hb2, eb⟩ := bd_nI hR.c10
  obtain ⟨l, hl, hl2, el⟩ := bd_nI (hR.ld b_x1)
  have hbl : b * l ≤ 9 * 100 := Nat.mul_le_mul (by omega) (by omega)
  have ew : whN (h 136) x1 = 1000 - (a + b * l) := by
    unfold whN
    rw [← cl9, ← cl10, ea, eb, el, nI_clamp ha2, nI_clamp hb2, nI_clamp hl2]
  rw [ew, ea, eb, el, pk_mul, nI_add]
  rintro _ rfl
  refine ⟨fun _ => ⟨rfl, rfl, ?_, by omega, by omega⟩, fun c => ?_⟩
  · rw [show (1000 : Int32) = nI 1000 from rfl, pk_sub (by omega)]
  · exact absurd (by rw [show (1000 : Int32) = nI 1000 from rfl]; exact nI_le (by omega) (by omega)) c
theorem p_X11_powers {h : HI} {g : HL} {r v n : Nat} (hr : r < 5) (hv : v ≤ 1000) (hn : n ≤ 78) : w_X11_powers (nI r) (nI v) (nI n) h g (fun h' _ => BF r h h' ∧ ∃ W, W ≤ n + 1 ∧ BG h' r W (v ^ n)) := by
  unfold w_X11_powers
  refine c_v (p_X11_sets (v := 1) hr (.inl rfl)) ?_
  rintro h1 g1 ⟨rfl, F1, G1⟩
  refine lpE_intro (fun ⟨a_q, b_q, c_q, d_q, h_q, _⟩ => ∃ k : Nat, k ≤ n ∧ nI r = a_q ∧ nI v = b_q ∧ nI n = c_q ∧ nI k = d_q ∧ BF r h h_q ∧ ∃ W, W ≤ k + 1 ∧ BG h_q r W (v ^ k)) (fun ⟨_, _, _, d_q, _, _⟩ => dif (nI n) d_q) ?_ _ ⟨0, Nat.zero_le _, rfl, rfl, rfl, nI_0, F1, 1, by omega, G1⟩
  rintro ⟨y1, y2, y3, y4, h2, g2⟩ K ⟨k, hk, rfl, rfl, rfl, rfl, F2, W, hW, G2⟩ hK
  unfold F_X11_powers_9; dsimp only; unfold b_X11_powers_9
  refine ⟨fun c => ?_, fun c => ?_⟩
  · rw [nI_leI (by omega) (by omega)] at c
    have : k = n := by omega
    subst this
    exact ⟨F2, W, hW, G2⟩
  · have hd := dif_lt c
    rw [nI_leI (by omega) (by omega)] at c
    refine c_v (p_X11_times hr hv G2 (by omega)) ?_
    rintro h3 g3 ⟨F3, W', hW', G3⟩
    rintro _ rfl
    exact hK _ ⟨k + 1, by omega, rfl, rfl, rfl, (nI_1 k).symm, F2.tr F3, W', by omega, by rw [Nat.pow_succ]; exact G3⟩ hd
/-- how wide THE FRACTION is -/
def WI (h : HI) : Prop := ∃ a b : Nat, a ≤ 70 ∧ b ≤ 70 ∧ h 147 0 = nI a ∧ h 147 1 = nI b
theorem WI.cg {a b : HI} (w : WI a) (e0 : b 147 0 = a 147 0) (e1 : b 147 1 = a 147 1) : WI b := by
  unfold WI; rw [e0, e1]; exact w
theorem gcd_ne {v : Nat} (h1 : 1 ≤ v) (h2 : v ≤ 1000) : 0 < Nat.gcd v 1000 ∧ Nat.gcd v 1000 ≤ 1000 := ⟨Nat.gcd_pos_of_pos_left _ (by omega), Nat.gcd_le_right _ (by omega)⟩
theorem p_X11_lasts {h : HI} {g : HL} (hR : RI (h 136)) (hW : WI h) {x1 x2 : Int32} : w_X11_lasts x1 x2 h g (fun r h' _ => (r = 1 ∧ (isRow (h 136 0) x1 ∧ bd 0 60 x2) ∨ r = -2 ∧ ¬ (isRow (h 136 0) x1 ∧ bd 0 60 x2)) ∧ KJ SBg h h' ∧ WI h') := by
  unfold w_X11_lasts
  refine c_is (vp_in_iff.mpr (by decide)) hR.c0 (by decide) (fun q q1 => ?_) (fun q => ?_)
  · refine ⟨fun c => absI c, fun _ => ?_⟩
    rw [cl0] at q1
    have hrow := isRow_r q q1
    refine c_in3 (fun q2 => ?_) (fun q2 => ?_)
    · refine ⟨fun _ => ?_, fun c => absI c⟩
      have b2 : bd 0 60 x2 := q2.mo (by decide) (by decide)
      obtain ⟨n, hn, hn2, rfl⟩ := bd_nI b2
      refine c_i (p_X11_whole hR (q.mo (by decide) (by decide))) ?_
      rintro _ _ _ ⟨rfl, rfl, rfl, w1, w2⟩
      obtain ⟨g1, g2⟩ := gcd_ne w1 w2
      refine ⟨fun _ => ?_, fun c => absurd c (nI_ne0 (by omega) (by omega))⟩
      refine c_i (p_X11_divisor (a := whN (h 136) x1) (b := 1000) (by omega) (by omega)) ?_
      rintro _ _ _ ⟨rfl, rfl, rfl⟩
      unfold j_X11_lasts_47
      have hne : ¬ nI (Nat.gcd (whN (h 136) x1) 1000) = 0 := nI_ne0 g1 (by omega)
      refine and_have hne (fun _ => ?_)
      rw [pk_div (by omega) g1 (by omega), show (1000 : Int32) = nI 1000 from rfl, pk_div (by omega) g1 (by omega)]
      refine c_v (p_X11_powers (r := 0) (by omega) (Nat.le_trans (Nat.div_le_self _ _) w2) (by omega)) ?_
      rintro h1 g1' ⟨F1, W1, hW1, G1⟩
      refine and_have hne (fun _ => ?_)
      refine c_v (p_X11_powers (r := 1) (by omega) (Nat.div_le_self _ _) (by omega)) ?_
      rintro h2 g2' ⟨F2, W2, hW2, G2⟩
      exact ⟨.inl ⟨rfl, hrow, b2⟩, F1.kj.tr F2.kj, W1, W2, by omega, by omega, (G1.fr F2 (by omega) (by omega)).1, G2.1⟩
    · refine ⟨fun c => absurd rfl c, fun _ => ⟨.inr ⟨rfl, fun hc => q2 (hc.2.mo (by decide) (by decide))⟩, KJ.rf, hW⟩⟩
  · rw [cl0] at q
    exact ⟨fun _ => ⟨.inr ⟨rfl, fun hc => isRow_n q hc.1⟩, KJ.rf, hW⟩, fun c => absN c⟩
/-- the fewest years in which the half breaks -/
def HQ (a b : Nat) (r : Int32) : Prop := (∃ n : Nat, 1 ≤ n ∧ n ≤ 200 ∧ 2 * a ^ n ≤ b ^ n ∧ (∀ m, 1 ≤ m → m < n → b ^ m < 2 * a ^ m) ∧ r = nI n) ∨ ((∀ m, 1 ≤ m → m ≤ 200 → b ^ m < 2 * a ^ m) ∧ r = -1)
theorem HQ.un {a b : Nat} {r s : Int32} (x : HQ a b r) (y : HQ a b s) : r = s := by
  rcases x with ⟨n, n1, n2, n3, n4, rfl⟩ | ⟨n4, rfl⟩
  · rcases y with ⟨m, m1, m2, m3, m4, rfl⟩ | ⟨m4, rfl⟩
    · rcases Nat.lt_trichotomy n m with l | l | l
      · have := m4 n n1 l; omega
      · rw [l]
      · have := n4 m m1 l; omega
    · have := m4 n n1 n2; omega
  · rcases y with ⟨m, m1, m2, m3, m4, rfl⟩ | ⟨m4, rfl⟩
    · have := n4 m m1 m2; omega
    · rfl
theorem pw_small {a k c : Nat} (ha : a ≤ 1000) (hk : k ≤ 200) (hc : c ≤ 2) : c * a ^ k < 2 ^ (30 * 67) := by
  have h1 : a ^ k ≤ (2 ^ 10) ^ k := Nat.pow_le_pow_left (by omega) k
  rw [← Nat.pow_mul] at h1
  have h2 : 2 ^ (10 * k) ≤ 2 ^ 2000 := Nat.pow_le_pow_right (by omega) (by omega)
  have h3 : c * a ^ k ≤ 2 * 2 ^ 2000 := Nat.mul_le_mul hc (Nat.le_trans h1 h2)
  have h4 : 2 * 2 ^ 2000 = 2 ^ 2001 := by rw [Nat.mul_comm, ← Nat.pow_succ]
  have h5 : 2 ^ 2001 < 2 ^ (30 * 67) := Nat.pow_lt_pow_right (by omega) (by omega)
  omega
theorem cmpN_pos {v u : Nat} : (0 : Int32) < cmpN v u ↔ u < v := by
  unfold cmpN
  by_cases c : v < u
  · rw [if_pos c]; exact ⟨fun x => absurd x (by decide), fun x => by omega⟩
  · rw [if_neg c]
    by_cases d : v = u
    · rw [if_pos d]; exact ⟨fun x => absurd x (by decide), fun x => by omega⟩
    · rw [if_neg d]; exact ⟨fun _ => by omega, fun _ => by decide⟩
theorem p_X11_half {h : HI} {g : HL} (hR : RI (h 136)) {x1 : Int32} : w_X11_half x1 h g (fun r h' _ => (isRow (h 136 0) x1 ∧ HQ (whN (h 136) x1 / Nat.gcd (whN (h 136) x1) 1000) (1000 / Nat.gcd (whN (h 136) x1) 1000) r ∨ r = -2 ∧ ¬ isRow (h 136 0) x1) ∧ KJ SBg h h' ∧ h' 147 0 = h 147 0 ∧ h' 147 1 = h 147 1) := by
  unfold w_X11_half
  refine c_is (vp_in_iff.mpr (by decide)) hR.c0 (by decide) (fun q q1 => ?_) (fun q => ?_)
  · refine ⟨fun _ => ?_, fun c => absI c⟩
    rw [cl0] at q1
    have hrow := isRow_r q q1
    refine c_i (p_X11_whole hR (q.mo (by decide) (by decide))) ?_
    rintro _ _ _ ⟨rfl, rfl, rfl, w1, w2⟩
    obtain ⟨g1, g2⟩ := gcd_ne w1 w2
    refine ⟨fun _ => ?_, fun c => absurd c (nI_ne0 (by omega) (by omega))⟩
    refine c_i (p_X11_divisor (a := whN (h 136) x1) (b := 1000) (by omega) (by omega)) ?_
    rintro _ _ _ ⟨rfl, rfl, rfl⟩
    generalize hG : Nat.gcd (whN (h 136) x1) 1000 = G at g1 g2 ⊢
    generalize hV : whN (h 136) x1 = V at w1 w2 ⊢
    have hne : ¬ nI G = 0 := nI_ne0 g1 (by omega)
    have a1 : V / G ≤ 1000 := Nat.le_trans (Nat.div_le_self _ _) w2
    have b1 : 1000 / G ≤ 1000 := Nat.div_le_self _ _
    unfold j_X11_half_35
    refine c_v (p_X11_sets (r := 2) (v := 2) (by omega) (.inr rfl)) ?_
    rintro h1 _ ⟨rfl, F1, G1⟩
    refine c_v (p_X11_sets (r := 3) (v := 1) (by omega) (.inl rfl)) ?_
    rintro h2 _ ⟨rfl, F2, G2⟩
    have fr : ∀ {a b : HI} {r : Nat}, BF r a b → 2 ≤ r → KJ SBg h a ∧ a 147 0 = h 147 0 ∧ a 147 1 = h 147 1 → KJ SBg h b ∧ b 147 0 = h 147 0 ∧ b 147 1 = h 147 1 := fun F hr x =>
      ⟨x.1.tr F.kj, (F.2.1 0 (by omega)).trans x.2.1, (F.2.1 1 (by omega)).trans x.2.2⟩
    have J2 := fr F2 (by omega) (fr F1 (by omega) ⟨KJ.rf, rfl, rfl⟩)
    refine lpE_intro (fun ⟨a_q, b_q, c_q, h_q, _⟩ => ∃ k W U : Nat, k ≤ 200 ∧ nI V = a_q ∧ nI G = b_q ∧ nI (k + 1) = c_q ∧ (KJ SBg h h_q ∧ h_q 147 0 = h 147 0 ∧ h_q 147 1 = h 147 1) ∧ BG h_q 2 W (2 * (V / G) ^ k) ∧ BG h_q 3 U ((1000 / G) ^ k) ∧ ∀ m, 1 ≤ m → m ≤ k → (1000 / G) ^ m < 2 * (V / G) ^ m) (fun ⟨_, _, c_q, _, _⟩ => dil (200 : Int32) c_q) ?_ _ ⟨0, 1, 1, by omega, rfl, rfl, rfl, J2, G1.fr F2 (by omega) (by omega), G2, fun m h1 h2 => by omega⟩
    rintro ⟨y2, y3, y4, h3, g3⟩ K ⟨k, W, U, hk, rfl, rfl, rfl, J3, A3, B3, hm⟩ hK
    unfold F_X11_half_51; dsimp only; unfold b_X11_half_51
    refine ⟨fun c => ?_, fun c => ?_⟩
    · rw [show (200 : Int32) = nI 200 from rfl, nI_ltI (by omega) (by omega)] at c
      have : k = 200 := by omega
      subst this
      exact ⟨.inl ⟨hrow, .inr ⟨hm, rfl⟩⟩, J3⟩
    · have hd := dil_lt c (by decide)
      rw [show (200 : Int32) = nI 200 from rfl, nI_ltI (by omega) (by omega)] at c
      have W67 := A3.wle (pw_small a1 hk (by omega))
      have U67 := B3.wle (m := 67) (by have := pw_small (c := 1) b1 hk (by omega); omega)
      refine and_have hne (fun _ => ?_)
      rw [pk_div (by omega) g1 (by omega), show (1000 : Int32) = nI 1000 from rfl, pk_div (by omega) g1 (by omega)]
      refine c_v (p_X11_times (r := 2) (by omega) a1 A3 (by omega)) ?_
      rintro h4 g4 ⟨F4, W', hW', A4⟩
      refine and_have hne (fun _ => ?_)
      refine c_v (p_X11_times (r := 3) (by omega) b1 (B3.fr F4 (by omega) (by omega)) (by omega)) ?_
      rintro h5 g5 ⟨F5, U', hU', B5⟩
      have A5 := A4.fr F5 (by omega) (by omega)
      rw [Nat.mul_assoc, ← Nat.pow_succ] at A5
      rw [← Nat.pow_succ] at B5
      have J5 := fr F5 (by omega) (fr F4 (by omega) J3)
      refine c_i (p_X11_against (r := 2) (s := 3) (by omega) (by omega) A5 B5 (by omega) (by omega)) ?_
      rintro _ _ _ ⟨rfl, rfl, rfl⟩
      rw [cmpN_pos]
      refine ⟨fun cc => ?_, fun cc => ?_⟩
      · rintro _ rfl
        refine hK _ ⟨k + 1, W', U', by omega, rfl, rfl, (nI_1 (k + 1)).symm, J5, A5, B5, ?_⟩ hd
        intro m h1 h2
        by_cases em : m = k + 1
        · subst em; exact cc
        · exact hm m h1 (by omega)
      · exact ⟨.inl ⟨hrow, .inl ⟨k + 1, by omega, by omega, Nat.not_lt.mp cc, fun m h1 h2 => hm m h1 (by omega), rfl⟩⟩, J5⟩
  · rw [cl0] at q
    exact ⟨fun c => absurd rfl c, fun _ => ⟨.inr ⟨rfl, fun hc => isRow_n q hc⟩, KJ.rf, rfl, rfl⟩⟩
end
section
-- 37.ref3
/-! FITTED, ALONG, DIGEST of the reference -/
theorem bd_nIp {a b : Int} {x : Int32} (h : bd a b x) (h0 : 0 ≤ a) : ∃ j : Nat, (j : Int) ≤ b ∧ a ≤ (j : Int) ∧ j < 2 ^ 31 ∧ x = nI j := by
  obtain ⟨j, h1, h2, rfl⟩ := bd_nI (h.mo h0 (Int.le_refl b))
  refine ⟨j, h1, ?_, h2, rfl⟩
  have := h.1
  rw [nI_toInt h2] at this
  exact this
theorem p_X11_likes {h : HI} {g : HL} (hR : RI (h 136)) {x1 x2 : Int32} : w_X11_likes x1 x2 h g (fun _ h' _ => BF 2 h h' ∧ ∃ W v, W ≤ 41 ∧ BG h' 2 W v) := by
  obtain ⟨n, hn, hn2, en⟩ := bd_nI hR.c6
  unfold w_X11_likes
  refine c_v (p_X11_sets (r := 2) (v := 1) (by omega) (.inl rfl)) ?_
  rintro h1 _ ⟨rfl, F1, G1⟩
  refine lpE_intro (fun ⟨_, _, c_q, h_q, _⟩ => ∃ k W v : Nat, k ≤ n ∧ nI k = c_q ∧ BF 2 h h_q ∧ W ≤ k + 1 ∧ BG h_q 2 W v) (fun ⟨_, _, c_q, _, _⟩ => dif (nI n) c_q) ?_ _ ⟨0, 1, 1, Nat.zero_le _, nI_0, F1, by omega, G1⟩
  rintro ⟨y1, y2, y3, h2, g2⟩ K ⟨k, W, v, hk, rfl, F2, hW, G2⟩ hK
  unfold F_X11_likes_8; dsimp only; unfold b_X11_likes_8
  rw [F2.1 136 (by decide) (by decide), en]
  refine and_have (vp_in_iff.mpr (by decide)) (fun _ => ⟨fun c => ⟨F2, W, v, by omega, G2⟩, fun c => ?_⟩)
  have hd := dif_lt c
  rw [nI_leI (by omega) (by omega)] at c
  have i0 : vp_in ((737 : Int32) + ((2 : Int32) * nI k)) 887 := by
    rw [show (737 : Int32) + ((2 : Int32) * nI k) = nI (737 + 2 * k) from ix2 737 2 k]; exact vp_in_nI (by omega) (by omega)
  have i1 : vp_in (((737 : Int32) + ((2 : Int32) * nI k)) + (1 : Int32)) 887 := by
    rw [show ((737 : Int32) + ((2 : Int32) * nI k)) + (1 : Int32) = nI (737 + 2 * k + 1) from ix3 737 2 k 1]; exact vp_in_nI (by omega) (by omega)
  refine and_have i0 (fun _ => ?_)
  intro x4 e4
  refine c_in3 (fun q => ?_) (fun q => ?_)
  · refine ⟨fun _ => ?_, fun c => absI c⟩
    obtain ⟨o, o1, o2, o3, rfl⟩ := bd_nIp (q.mo (c := 1) (d := 999) (by decide) (by decide)) (by omega)
    clear e4
    have j83 : ∀ B : Nat, B ≤ 1000 → j_X11_likes_83 (fun _ h' _ => BF 2 h h' ∧ ∃ W v, W ≤ 41 ∧ BG h' 2 W v) (fun x1 x2 x3 h g => K (x1, x2, x3, h, g)) y1 y2 (nI k) (2 : Int32) (nI B) h2 g2 := by
      intro B hB
      unfold j_X11_likes_83
      refine c_v (p_X11_times (r := 2) (by omega) hB G2 (by omega)) ?_
      rintro h3 g3 ⟨F3, W', hW', G3⟩
      rintro _ rfl
      exact hK _ ⟨k + 1, W', _, by omega, (nI_1 k).symm, F2.tr F3, by omega, G3⟩ hd
    refine and_have i1 (fun _ => ⟨fun _ => ?_, fun _ => j83 o (by omega)⟩)
    rw [show (1000 : Int32) = nI 1000 from rfl, pk_sub (by omega)]
    exact j83 _ (by omega)
  · exact ⟨fun c => absurd rfl c, fun _ => ⟨F2, W, v, by omega, G2⟩⟩
theorem p_X11_fitted {h : HI} {g : HL} (hR : RI (h 136)) : w_X11_fitted h g (fun _ h' _ => KJ SBg h h' ∧ h' 147 0 = h 147 0 ∧ h' 147 1 = h 147 1) := by
  have fr : ∀ {a b : HI} {r : Nat}, BF r a b → 2 ≤ r → KJ SBg h a ∧ a 147 0 = h 147 0 ∧ a 147 1 = h 147 1 → KJ SBg h b ∧ b 147 0 = h 147 0 ∧ b 147 1 = h 147 1 := fun F hr x =>
    ⟨x.1.tr F.kj, (F.2.1 0 (by omega)).trans x.2.1, (F.2.1 1 (by omega)).trans x.2.2⟩
  unfold w_X11_fitted
  refine lpE_intro (fun ⟨a_q, b_q, h_q, _⟩ => ∃ k : Nat, k ≤ 100 ∧ nI k = b_q ∧ (KJ SBg h h_q ∧ h_q 147 0 = h 147 0 ∧ h_q 147 1 = h 147 1) ∧ (a_q = -1 ∨ ∃ W v, W ≤ 41 ∧ BG h_q 4 W v)) (fun ⟨_, b_q, _, _⟩ => dif (nI 100) b_q) ?_ _ ⟨0, by omega, nI_0, ⟨KJ.rf, rfl, rfl⟩, .inl rfl⟩
  rintro ⟨y1, y2, h1, g1⟩ K ⟨k, hk, rfl, J1, hb⟩ hK
  unfold F_X11_fitted_4; dsimp only; unfold b_X11_fitted_4
  refine ⟨fun _ => J1, fun c => ?_⟩
  have hd := dif_lt (a := nI 100) c
  rw [show (100 : Int32) = nI 100 from rfl, nI_leI (by omega) (by omega)] at c
  have R1 : RI (h1 136) := hR.kj J1.1 (fun k => by unfold SBg; omega)
  refine c_z (p_X11_likes R1) ?_
  rintro r h2 g2 ⟨F2, W, v, hW, G2⟩
  have J2 := fr F2 (by omega) J1
  have hb2 : y1 = -1 ∨ ∃ W v, W ≤ 41 ∧ BG h2 4 W v := hb.elim .inl (fun ⟨W', v', a, b⟩ => .inr ⟨W', v', a, b.fr F2 (by omega) (by omega)⟩)
  have j91 : ∀ (a : Int32) (h3 : HI) (g3 : HL), (KJ SBg h h3 ∧ h3 147 0 = h 147 0 ∧ h3 147 1 = h 147 1) → (a = -1 ∨ ∃ W v, W ≤ 41 ∧ BG h3 4 W v) → j_X11_fitted_91 (fun _ h' _ => KJ SBg h h' ∧ h' 147 0 = h 147 0 ∧ h' 147 1 = h 147 1) (fun x1 x2 h g => K (x1, x2, h, g)) a (nI k) h3 g3 := by
    intro a h3 g3 J3 hb3
    unfold j_X11_fitted_91
    rintro _ rfl
    exact hK _ ⟨k + 1, by omega, (nI_1 k).symm, J3, hb3⟩ hd
  have j39 : j_X11_fitted_39 (fun _ h' _ => KJ SBg h h' ∧ h' 147 0 = h 147 0 ∧ h' 147 1 = h 147 1) (fun x1 x2 h g => K (x1, x2, h, g)) (nI k) h2 g2 := by
    unfold j_X11_fitted_39
    rw [cl2, cl4, G2.1]
    refine and_have (vp_in_iff.mpr (by decide)) (fun _ => and_have (vp_in_iff.mpr (by decide)) (fun _ => ?_))
    intro h3 e3
    have F3 : BF 4 h2 h3 := ⟨fun o n m => by rw [e3, hu_ne m], fun q n => by rw [e3, hu_eq, pk_un n], fun j _ => by rw [e3, hu_ne (by decide)]⟩
    have e34 : h3 147 4 = nI W := by rw [e3, hu_eq, pk_us]
    have e3b : h3 146 = h2 146 := by rw [e3, hu_ne (by decide)]
    have G3 := G2.fr F3 (by omega) (by omega)
    refine lpE_intro (fun ⟨a_q, b_q, c_q, h_q, _⟩ => ∃ j : Nat, j ≤ W ∧ nI k = b_q ∧ nI j = c_q ∧ BF 4 h2 h_q ∧ h_q 147 4 = nI W ∧ ∀ i, i < j → h_q 146 (320 + i) = h2 146 (160 + i)) (fun ⟨_, _, c_q, _, _⟩ => dif (nI W) c_q) ?_ _ ⟨0, Nat.zero_le _, rfl, nI_0, F3, e34, fun i hi => by omega⟩
    rintro ⟨z1, z2, z3, h4, g4⟩ K2 ⟨j, hj, rfl, rfl, F4, e44, hi⟩ hK2
    unfold F_X11_fitted_55; dsimp only; unfold b_X11_fitted_55
    rw [cl2, (F4.2.1 2 (by omega)).trans G2.1]
    refine and_have (vp_in_iff.mpr (by decide)) (fun _ => ⟨fun cj => ?_, fun cj => ?_⟩)
    · have ej : j = W := by
        rw [nI_leI (by omega) (by omega)] at cj; omega
      subst ej
      refine j91 _ h4 g4 (fr F4 (by omega) J2) (.inr ⟨j, v, hW, e44, ?_, ?_, ?_⟩)
      · exact fun i h => by
          obtain ⟨d, hd1, hd2⟩ := G2.2.1 i h
          exact ⟨d, hd1, (hi i h).trans hd2⟩
      · rw [← G2.2.2.1]
        have : ∀ m, m ≤ j → vl (h4 146) (80 * 4) m = vl (h2 146) (80 * 2) m := by
          intro m hm
          induction m with
          | zero => rfl
          | succ m ih =>
            unfold vl
            rw [ih (by omega), show 80 * 4 + m = 320 + m by omega, hi m (by omega)]
        exact this j (Nat.le_refl _)
      · intro V hV
        have := G2.2.2.2 V hV
        rw [show 80 * 4 + V = 320 + V by omega, hi V (by omega)]; exact this
    · have hd2 := dif_lt cj
      rw [nI_leI (by omega) (by omega)] at cj
      rw [show (160 : Int32) + nI j = nI (160 + j) from nI_add 160 j, show (320 : Int32) + nI j = nI (320 + j) from nI_add 320 j, nI_clamp (by omega), nI_clamp (by omega)]
      refine and_have (vp_in_nI (by omega) (by omega)) (fun _ => and_have (vp_in_nI (by omega) (by omega)) (fun _ => ?_))
      intro h5 e5
      rintro _ rfl
      refine hK2 _ ⟨j + 1, by omega, rfl, (nI_1 j).symm, F4.tr ⟨fun o n m => by rw [e5, hu_ne n], fun q n => by rw [e5, hu_ne (by decide)], fun i h => by rw [e5, hu_eq, pk_un (by omega)]⟩, by rw [e5, hu_ne (by decide)]; exact e44, ?_⟩ hd2
      intro i hi2
      rw [e5, hu_eq]
      by_cases ei : i = j
      · subst ei
        rw [pk_us]
        exact F4.2.2 _ (by omega)
      · rw [pk_un (by omega)]; exact hi i (by omega)
  refine ⟨fun _ => j91 _ _ _ J2 hb2, fun _ => ⟨fun _ => j39, fun c1 => ?_⟩⟩
  rcases hb2 with e | ⟨W4, v4, hW4, G4⟩
  · exact absurd e c1
  · refine c_i (p_X11_against (r := 2) (s := 4) (by omega) (by omega) G2 G4 (by omega) (by omega)) ?_
    rintro _ _ _ ⟨rfl, rfl, rfl⟩
    exact ⟨fun _ => j91 _ _ _ J2 (.inr ⟨W4, v4, hW4, G4⟩), fun _ => j39⟩
theorem p_X11_limbs {h : HI} {g : HL} {x1 : Int32} : w_X11_limbs x1 h g (fun _ h' g' => h = h' ∧ g = g') := by
  unfold w_X11_limbs
  refine c_in3 (fun q => ⟨fun c => absI c, fun _ => ⟨vp_bd q (by decide) (by decide), rfl, rfl⟩⟩) (fun q => ⟨fun _ => ⟨rfl, rfl⟩, fun c => absN c⟩)
theorem p_X11_limb {h : HI} {g : HL} (hW : WI h) {x1 x2 : Int32} : w_X11_limb x1 x2 h g (fun _ h' g' => h = h' ∧ g = g') := by
  unfold w_X11_limb
  refine c_in3 (fun q => ⟨fun c => absI c, fun _ => ⟨fun c0 => ?_, fun _ => ⟨rfl, rfl⟩⟩⟩) (fun q => ⟨fun _ => ⟨rfl, rfl⟩, fun c => absN c⟩)
  obtain ⟨j, hj, hj2, rfl⟩ := bd_nI (q.mo (c := 0) (d := 1) (by decide) (by decide))
  obtain ⟨i, hi, rfl⟩ := nI_of (Int32.not_lt.mpr c0)
  obtain ⟨a, b, ha, hb, ea, eb⟩ := hW
  rw [nI_clamp hj2]
  have hw : ∃ w : Nat, w ≤ 70 ∧ h 147 j = nI w := by
    by_cases e : j = 0
    · subst e; exact ⟨a, ha, ea⟩
    · have : j = 1 := by omega
      subst this; exact ⟨b, hb, eb⟩
  obtain ⟨w, hw1, hw2⟩ := hw
  rw [hw2]
  refine and_have (vp_in_nI (by omega) (by omega)) (fun _ => ⟨fun _ => ⟨rfl, rfl⟩, fun c => ?_⟩)
  rw [nI_leI (by omega) (by omega)] at c
  refine ⟨?_, rfl, rfl⟩
  rw [m80, nI_add]
  exact vp_in_nI (by omega) (by omega)
theorem shl24 : ∀ j : Nat, j < 24 → (1 : Int32) <<< (nI j &&& 31) = nI (2 ^ j) := by decide +kernel
theorem p24 {j : Nat} (h : j < 24) : 2 ^ j < 2 ^ 24 := Nat.pow_lt_pow_right (by omega) h
theorem p_X11_alongOf {h : HI} {g : HL} (hR : RI (h 136)) {x1 : Int32} : w_X11_alongOf x1 h g (fun _ h' g' => h = h' ∧ g = g') := by
  obtain ⟨n, hn, hn2, en⟩ := bd_nI hR.c0
  unfold w_X11_alongOf
  refine lpE_intro (fun ⟨a_q, b_q, c_q, h_q, g_q⟩ => ∃ s : Nat, s < 2 ^ 24 ∧ x1 = a_q ∧ nI s = b_q ∧ h = h_q ∧ g = g_q) (fun ⟨_, b_q, c_q, _, _⟩ => if c_q = 0 then 0 else 2 ^ 24 - b_q.toNatClampNeg) ?_ _ ⟨0, by omega, rfl, nI_0, rfl, rfl⟩
  rintro ⟨y1, y2, y3, h1, g1⟩ K ⟨s, hs, rfl, rfl, rfl, rfl⟩ hK
  unfold F_X11_alongOf_4; dsimp only; unfold b_X11_alongOf_4
  refine ⟨fun _ => ⟨rfl, rfl⟩, fun c3 => ?_⟩
  refine lpE_intro (fun ⟨a_q, b_q, c_q, d_q, h_q, g_q⟩ => ∃ k t : Nat, k ≤ n ∧ t < 2 ^ 24 ∧ s ≤ t ∧ x1 = a_q ∧ nI s = b_q ∧ nI t = c_q ∧ nI k = d_q ∧ h = h_q ∧ g = g_q) (fun ⟨_, _, _, d_q, _, _⟩ => dif (nI n) d_q) ?_ _ ⟨0, s, by omega, hs, Nat.le_refl _, rfl, rfl, rfl, nI_0, rfl, rfl⟩
  rintro ⟨z1, z2, z4, z5, h2, g2⟩ K2 ⟨k, t, hk, ht, hst, rfl, rfl, rfl, rfl, rfl, rfl⟩ hK2
  unfold F_X11_alongOf_14; dsimp only; unfold b_X11_alongOf_14
  rw [en]
  refine and_have (vp_in_iff.mpr (by decide)) (fun _ => ⟨fun c => ⟨fun ce => ?_, fun ce => ?_⟩, fun c => ?_⟩)
  · unfold j_X11_alongOf_71
    refine hK _ ⟨t, ht, rfl, rfl, rfl, rfl⟩ ?_
    dsimp only
    rw [if_pos rfl, if_neg c3, nI_clamp (by omega)]
    omega
  · unfold j_X11_alongOf_71
    refine hK _ ⟨t, ht, rfl, rfl, rfl, rfl⟩ ?_
    dsimp only
    rw [if_neg (by decide), if_neg c3, nI_clamp (by omega), nI_clamp (by omega)]
    have : t ≠ s := fun e => ce (by rw [e])
    omega
  · have hd := dif_lt c
    rw [nI_leI (by omega) (by omega)] at c
    refine c_i (p_X11_partOf hR (bd_of (n := k) (by omega) (by omega) (by omega)) ((bd_lit (n := 4) (by decide)).mo (by decide) (by decide))) ?_
    rintro _ _ _ ⟨rfl, rfl, rfl⟩
    have j51 : ∀ b : Nat, b < 2 ^ 24 → j_X11_alongOf_51 (fun _ h' g' => h = h' ∧ g = g') (fun x1 x2 x3 h g => K (x1, x2, x3, h, g)) (fun x1 x2 x4 x5 h g => K2 (x1, x2, x4, x5, h, g)) x1 (nI s) (nI k) (nI t) (nI b) h g := by
      intro b hb
      unfold j_X11_alongOf_51
      rw [nI_or]
      rintro _ rfl
      rintro _ rfl
      exact hK2 _ ⟨k + 1, t ||| b, by omega, Nat.or_lt_two_pow ht hb, Nat.le_trans hst Nat.left_le_or, rfl, rfl, rfl, (nI_1 k).symm, rfl, rfl⟩ hd
    refine ⟨fun _ => j51 0 (by omega), fun _ => ?_⟩
    rw [shl24 k (by omega)]
    exact j51 _ (p24 (by omega))
theorem p_X11_along {h : HI} {g : HL} (hR : RI (h 136)) {x1 : Int32} : w_X11_along x1 h g (fun _ h' g' => h = h' ∧ g = g') := by
  unfold w_X11_along
  refine c_is (vp_in_iff.mpr (by decide)) hR.c0 (by decide) (fun q q1 => ⟨fun c => absI c, fun _ => ?_⟩) (fun q => ⟨fun _ => ⟨rfl, rfl⟩, fun c => absN c⟩)
  refine c_i (p_X11_alongOf hR) ?_
  rintro r _ _ ⟨rfl, rfl⟩
  exact ⟨rfl, rfl⟩
theorem p_X11_taking {h : HI} {g : HL} (hR : RI (h 136)) {x1 : Int32} : w_X11_taking x1 h g (fun _ h' _ => KJ STk h h') := by
  have j17 : (x1 = -1 ∨ bd 0 5 x1) → j_X11_taking_17 (fun _ h' _ => KJ STk h h') x1 h g := by
    intro hx
    unfold j_X11_taking_17
    refine c_i (p_X11_findTaking hR) ?_
    rintro r h1 g1 J1
    refine ⟨fun c => ?_, fun _ => J1⟩
    rcases hx with e | hx
    · exact absurd e c
    · exact ⟨vp_bd hx (by decide) (by decide), J1⟩
  unfold w_X11_taking
  refine ⟨fun c => j17 (.inl c), fun _ => ?_⟩
  refine c_is (vp_in_iff.mpr (by decide)) hR.c4 (by decide) (fun q q1 => ⟨fun _ => j17 (.inr (q.mo (by decide) (by decide))), fun c => absI c⟩) (fun q => ⟨fun c => absurd rfl c, fun _ => KJ.rf⟩)
theorem p_X11_mixed {h : HI} {g : HL} {x1 : Int64} {a n : Nat} (ha : a + n ≤ 887) : w_X11_mixed x1 (nI a) (nI n) h g (fun _ h' g' => h = h' ∧ g = g') := by
  unfold w_X11_mixed
  refine lpE_intro (fun ⟨a_q, b_q, _, d_q, h_q, g_q⟩ => ∃ k : Nat, k ≤ n ∧ nI a = a_q ∧ nI n = b_q ∧ nI k = d_q ∧ h = h_q ∧ g = g_q) (fun ⟨_, _, _, d_q, _, _⟩ => dif (nI n) d_q) ?_ _ ⟨0, Nat.zero_le _, rfl, rfl, nI_0, rfl, rfl⟩
  rintro ⟨y1, y2, y3, y4, h1, g1⟩ K ⟨k, hk, rfl, rfl, rfl, rfl, rfl⟩ hK
  unfold F_X11_mixed_6; dsimp only; unfold b_X11_mixed_6
  refine ⟨fun _ => ⟨rfl, rfl⟩, fun c => ?_⟩
  have hd := dif_lt c
  rw [nI_leI (by omega) (by omega)] at c
  refine and_have (by rw [nI_add]; exact vp_in_nI (by omega) (by omega)) (fun _ => ?_)
  rintro _ rfl
  rintro _ rfl
  exact hK _ ⟨k + 1, by omega, rfl, rfl, (nI_1 k).symm, rfl, rfl⟩ hd
end
section
-- 38.way
/-! WAY of the reference -/
/-- what a row of works costs that begins with work w at size s and has l more -/
def bv (f q : Nat → Int32) (w s l : Nat) : Int32 :=
  if (f (672 + 4 * w + 2)).toInt ≤ (s : Int) ∧ (s : Int) ≤ (f (672 + 4 * w + 3)).toInt ∧ 1 ≤ (nI s + f (672 + 4 * w)).toInt ∧ (nI s + f (672 + 4 * w)).toInt ≤ 3000
  then f (672 + 4 * w + 1) + q (3001 * l + (nI s + f (672 + 4 * w)).toNatClampNeg) else 1000000
theorem p_X11_by {h : HI} {g : HL} {w s l : Nat} (hw : w < 8) (hs : s ≤ 3000) (hl : l ≤ 4) : w_X11_by (nI w) (nI s) (nI l) h g (fun r h' g' => h = h' ∧ g = g' ∧ bv (h 136) (h 143) w s l = r) := by
  unfold w_X11_by
  rintro _ rfl
  rw [show (672 : Int32) + ((4 : Int32) * nI w) = nI (672 + 4 * w) from ix2 672 4 w, show nI (672 + 4 * w) + (1 : Int32) = nI (672 + 4 * w + 1) from nI_add _ 1, show nI (672 + 4 * w) + (2 : Int32) = nI (672 + 4 * w + 2) from nI_add _ 2, show nI (672 + 4 * w) + (3 : Int32) = nI (672 + 4 * w + 3) from nI_add _ 3, nI_clamp (n := 672 + 4 * w) (by omega), nI_clamp (n := 672 + 4 * w + 1) (by omega), nI_clamp (n := 672 + 4 * w + 2) (by omega), nI_clamp (n := 672 + 4 * w + 3) (by omega)]
  refine and_have (vp_in_nI (by omega) (by omega)) (fun _ => ?_)
  rintro x5 e5
  refine and_have (vp_in_nI (by omega) (by omega)) (fun _ => and_have (vp_in_nI (by omega) (by omega)) (fun _ => ?_))
  refine c_in3 (fun q => ?_) (fun q => ?_)
  · unfold bd at q
    rw [Int32.toInt_toInt64, Int32.toInt_toInt64, nI_toInt (by omega)] at q
    refine ⟨fun c => absI c, fun _ => ?_⟩
    refine c_in3 (fun q2 => ?_) (fun q2 => ?_)
    · have q3 : bd 1 3000 x5 := q2.mo (by decide) (by decide)
      obtain ⟨t, t1, t2, t3, et⟩ := bd_nIp q3 (by omega)
      refine ⟨fun _ => ⟨vp_in_nI (by omega) (by omega), ?_, rfl, rfl, ?_⟩, fun c => absI c⟩
      · rw [et, show (3001 : Int32) * nI l = nI (3001 * l) from pk_mul 3001 l, nI_add]
        exact vp_in_nI (by omega) (by omega)
      · unfold bv
        unfold bd at q3
        rw [← e5, if_pos ⟨q.1, q.2, q3.1, q3.2⟩, et, show (3001 : Int32) * nI l = nI (3001 * l) from pk_mul 3001 l, nI_add, nI_clamp t3, nI_clamp (by omega)]
    · refine ⟨fun c => absurd rfl c, fun _ => ⟨rfl, rfl, ?_⟩⟩
      unfold bv
      rw [← e5, if_neg]
      exact fun hc => q2 (bd.mo (a := 1) (b := 3000) ⟨hc.2.2.1, hc.2.2.2⟩ (by decide) (by decide))
  · unfold bd at q
    rw [Int32.toInt_toInt64, Int32.toInt_toInt64, nI_toInt (by omega)] at q
    refine ⟨fun _ => ⟨rfl, rfl, ?_⟩, fun c => absN c⟩
    unfold bv
    rw [if_neg]
    exact fun hc => q ⟨hc.1, hc.2.1⟩
/-- prices of n works, all sizes below S -/
def okP (f q : Nat → Int32) (W n S : Nat) : Prop := ∀ s : Nat, 1 ≤ s → s < S → bd 0 1000000 (q (3001 * n + s)) ∧ (1 ≤ n → q (3001 * n + s) = 1000000 ∨ ∃ w, w < W ∧ bv f q w s (n - 1) = q (3001 * n + s))
theorem bv_cg {f q q' : Nat → Int32} {w s l : Nat} (e : ∀ t, 1 ≤ t → t ≤ 3000 → q' (3001 * l + t) = q (3001 * l + t)) : bv f q' w s l = bv f q w s l := by
  unfold bv
  by_cases c : (f (672 + 4 * w + 2)).toInt ≤ (s : Int) ∧ (s : Int) ≤ (f (672 + 4 * w + 3)).toInt ∧ 1 ≤ (nI s + f (672 + 4 * w)).toInt ∧ (nI s + f (672 + 4 * w)).toInt ≤ 3000
  · rw [if_pos c, if_pos c]
    obtain ⟨t, t1, t2, t3, et⟩ := bd_nIp (a := 1) (b := 3000) (x := nI s + f (672 + 4 * w)) ⟨c.2.2.1, c.2.2.2⟩ (by omega)
    rw [et, nI_clamp t3, e t (by omega) (by omega)]
  · rw [if_neg c, if_neg c]
theorem okP.cg {f q q' : Nat → Int32} {W n S : Nat} (h : okP f q W n S) (hS : S ≤ 3001) (e : ∀ i, i < 3001 * n + S → q' i = q i) : okP f q' W n S := by
  intro s s1 s2
  obtain ⟨a, b⟩ := h s s1 s2
  rw [e _ (by omega)]
  refine ⟨a, fun n1 => (b n1).elim .inl (fun ⟨w, w1, w2⟩ => .inr ⟨w, w1, ?_⟩)⟩
  rw [bv_cg (q := q) (fun t t1 t2 => e _ (by
    have : 3001 * (n - 1) + 3001 = 3001 * n := by omega
    omega))]
  exact w2
theorem p_X11_findPrices {h : HI} {g : HL} (hR : RI (h 136)) {x1 x2 : Int32} : w_X11_findPrices x1 x2 h g (fun h' _ => KJ SPr h h' ∧ ∃ W : Nat, W ≤ 8 ∧ ∀ n : Nat, n ≤ 5 → okP (h 136) (h' 143) W n 3001) := by
  obtain ⟨W, hW, hW2, eW⟩ := bd_nI hR.c3
  unfold w_X11_findPrices
  refine lpE_intro (fun ⟨a_q, b_q, c_q, h_q, _⟩ => ∃ n : Nat, n ≤ 6 ∧ x1 = a_q ∧ x2 = b_q ∧ nI n = c_q ∧ KJ SPr h h_q ∧ ∀ m : Nat, m < n → okP (h 136) (h_q 143) W m 3001) (fun ⟨_, _, c_q, _, _⟩ => dil (5 : Int32) c_q) ?_ _ ⟨0, by omega, rfl, rfl, nI_0, KJ.rf, fun m hm => by omega⟩
  rintro ⟨y1, y2, y3, h1, g1⟩ K ⟨n, hn, rfl, rfl, rfl, J1, P1⟩ hK
  unfold F_X11_findPrices_2; dsimp only; unfold b_X11_findPrices_2
  refine ⟨fun c => ?_, fun c => ?_⟩
  · rw [show (5 : Int32) = nI 5 from rfl, nI_ltI (by omega) (by omega)] at c
    exact ⟨J1, W, by omega, fun m hm => P1 m (by omega)⟩
  have hd := dil_lt c (by decide)
  rw [show (5 : Int32) = nI 5 from rfl, nI_ltI (by omega) (by omega)] at c
  refine lpE_intro (fun ⟨a_q, b_q, c_q, d_q, h_q, _⟩ => ∃ s : Nat, 1 ≤ s ∧ s ≤ 3001 ∧ x1 = a_q ∧ x2 = b_q ∧ nI n = c_q ∧ nI s = d_q ∧ KJ SPr h h_q ∧ (∀ m : Nat, m < n → okP (h 136) (h_q 143) W m 3001) ∧ okP (h 136) (h_q 143) W n s) (fun ⟨_, _, _, d_q, _, _⟩ => dil (3000 : Int32) d_q) ?_ _ ⟨1, by omega, by omega, rfl, rfl, rfl, rfl, J1, P1, fun s s1 s2 => by omega⟩
  rintro ⟨y1, y2, y3, y4, h2, g2⟩ K2 ⟨s, s1, s2, rfl, rfl, rfl, rfl, J2, P2, Q2⟩ hK2
  unfold F_X11_findPrices_10; dsimp only; unfold b_X11_findPrices_10
  refine ⟨fun cs => ?_, fun cs => ?_⟩
  · rw [show (3000 : Int32) = nI 3000 from rfl, nI_ltI (by omega) (by omega)] at cs
    have : s = 3001 := by omega
    subst this
    rintro _ rfl
    refine hK _ ⟨n + 1, by omega, rfl, rfl, (nI_1 n).symm, J2, fun m hm => ?_⟩ hd
    by_cases em : m = n
    · subst em; exact Q2
    · exact P2 m (by omega)
  have hds := dil_lt cs (by decide)
  rw [show (3000 : Int32) = nI 3000 from rfl, nI_ltI (by omega) (by omega)] at cs
  have eF : ∀ k, h2 136 k = h 136 k := fun k => J2 136 k (by unfold SPr; omega)
  have eF' : h2 136 = h 136 := funext eF
  have j96 : ∀ (x5 : Int32) (g3 : HL), bd 0 1000000 x5 → (1 ≤ n → x5 = 1000000 ∨ ∃ w, w < W ∧ bv (h 136) (h2 143) w s (n - 1) = x5) → j_X11_findPrices_96 (fun h' _ => KJ SPr h h' ∧ ∃ W : Nat, W ≤ 8 ∧ ∀ n : Nat, n ≤ 5 → okP (h 136) (h' 143) W n 3001) (fun x1 x2 x3 h g => K (x1, x2, x3, h, g)) (fun x1 x2 x3 x4 h g => K2 (x1, x2, x3, x4, h, g)) x1 x2 (nI n) (nI s) x5 h2 g3 := by
    intro x5 g3 hb hx
    unfold j_X11_findPrices_96
    rw [show (3001 : Int32) * nI n = nI (3001 * n) from pk_mul 3001 n, nI_add, nI_clamp (by omega)]
    refine and_have (vp_in_nI (by omega) (by omega)) (fun _ => ?_)
    intro h3 e3
    rintro _ rfl
    have e143 : h3 143 = upd (h2 143) (3001 * n + s) x5 := by rw [e3, hu_eq]
    have same : ∀ i, i ≠ 3001 * n + s → h3 143 i = h2 143 i := fun i hi => by rw [e143, pk_un hi]
    refine hK2 _ ⟨s + 1, by omega, by omega, rfl, rfl, rfl, (nI_1 s).symm, J2.hu e3 (by unfold SPr; rfl), fun m hm => (P2 m hm).cg (by omega) (fun i hi => same i (by omega)), ?_⟩ hds
    intro t t1 t2
    by_cases et : t = s
    · subst et
      rw [e143, pk_us]
      refine ⟨hb, fun n1 => (hx n1).elim .inl (fun ⟨w, w1, w2⟩ => .inr ⟨w, w1, ?_⟩)⟩
      rw [← e143, bv_cg (q := h2 143) (fun t' t1' t2' => same _ (by omega))]
      exact w2
    · exact (Q2.cg (by omega) (fun i hi => same i (by omega))) t t1 (by omega)
  have j41 : ∀ (x5 : Int32) (g3 : HL), (x5 = 1000000 ∨ n = 0 ∧ x5 = 0) → j_X11_findPrices_41 (fun h' _ => KJ SPr h h' ∧ ∃ W : Nat, W ≤ 8 ∧ ∀ n : Nat, n ≤ 5 → okP (h 136) (h' 143) W n 3001) (fun x1 x2 x3 h g => K (x1, x2, x3, h, g)) (fun x1 x2 x3 x4 h g => K2 (x1, x2, x3, x4, h, g)) x1 x2 (nI n) (nI s) x5 h2 g3 := by
    intro x5 g3 hx
    unfold j_X11_findPrices_41
    refine lpE_intro (fun ⟨a_q, b_q, c_q, d_q, e_q, f_q, h_q, _⟩ => ∃ w : Nat, w ≤ W ∧ x1 = a_q ∧ x2 = b_q ∧ nI n = c_q ∧ nI s = d_q ∧ nI w = f_q ∧ h2 = h_q ∧ bd 0 1000000 e_q ∧ (1 ≤ n → e_q = 1000000 ∨ ∃ v, v < W ∧ bv (h 136) (h2 143) v s (n - 1) = e_q)) (fun ⟨_, _, _, _, _, f_q, _, _⟩ => dif (nI W) f_q) ?_ _ ⟨0, Nat.zero_le _, rfl, rfl, rfl, rfl, nI_0, rfl, ?_, ?_⟩
    · rintro ⟨z1, z2, z3, z4, z5, z6, h3, g4⟩ K3 ⟨w, hw, rfl, rfl, rfl, rfl, rfl, rfl, hb, hx5⟩ hK3
      unfold F_X11_findPrices_46; dsimp only; unfold b_X11_findPrices_46
      rw [eF, eW]
      refine and_have (vp_in_iff.mpr (by decide)) (fun _ => ⟨fun _ => j96 _ _ hb hx5, fun cw => ⟨fun _ => j96 _ _ hb hx5, fun cn => ?_⟩⟩)
      have hdw := dif_lt cw
      rw [nI_leI (by omega) (by omega)] at cw
      obtain ⟨m, rfl⟩ : ∃ m, n = m + 1 := ⟨n - 1, by
        have : n ≠ 0 := fun e => cn (by rw [e]; decide)
        omega⟩
      rw [nI_pred]
      refine c_i (p_X11_by (by omega) (by omega) (by omega)) ?_
      rintro _ _ _ ⟨rfl, rfl, rfl⟩
      have j88 : ∀ v : Int32, bd 0 1000000 v → (1 ≤ m + 1 → v = 1000000 ∨ ∃ u, u < W ∧ bv (h 136) (h2 143) u s (m + 1 - 1) = v) → j_X11_findPrices_88 (fun h' _ => KJ SPr h h' ∧ ∃ W : Nat, W ≤ 8 ∧ ∀ n : Nat, n ≤ 5 → okP (h 136) (h' 143) W n 3001) (fun x1 x2 x3 h g => K (x1, x2, x3, h, g)) (fun x1 x2 x3 x4 h g => K2 (x1, x2, x3, x4, h, g)) (fun x1 x2 x3 x4 x5 x6 h g => K3 (x1, x2, x3, x4, x5, x6, h, g)) x1 x2 (nI (m + 1)) (nI s) (nI w) v h2 g4 := by
        intro v hv1 hv2
        unfold j_X11_findPrices_88
        rintro _ rfl
        exact hK3 _ ⟨w + 1, by omega, rfl, rfl, rfl, rfl, (nI_1 w).symm, rfl, hv1, hv2⟩ hdw
      refine ⟨fun _ => j88 _ hb hx5, fun cl => j88 _ ?_ (fun _ => .inr ⟨w, by omega, by rw [eF']; rfl⟩)⟩
      rw [Int32.le_iff_toInt_le] at cl
      refine ⟨?_, by unfold bd at hb; omega⟩
      unfold bv
      by_cases cc : (h2 136 (672 + 4 * w + 2)).toInt ≤ (s : Int) ∧ (s : Int) ≤ (h2 136 (672 + 4 * w + 3)).toInt ∧ 1 ≤ (nI s + h2 136 (672 + 4 * w)).toInt ∧ (nI s + h2 136 (672 + 4 * w)).toInt ≤ 3000
      · rw [if_pos cc]
        obtain ⟨t, t1, t2, t3, et⟩ := bd_nIp (a := 1) (b := 3000) (x := nI s + h2 136 (672 + 4 * w)) ⟨cc.2.2.1, cc.2.2.2⟩ (by omega)
        rw [et, nI_clamp t3]
        have b1 := (P2 m (by omega) t (by omega) (by omega)).1
        have b2 : bd 0 1000 (h2 136 (672 + 4 * w + 1)) := by rw [eF]; exact (hR.2.2.2.2.2.1 w (by omega)).2
        exact (bd_add b2 b1 (by decide) (by decide)).1
      · rw [if_neg cc]; decide
    · rcases hx with e | ⟨_, e⟩
      · rw [e]; unfold bd; decide
      · rw [e]; unfold bd; decide
    · intro n1
      rcases hx with e | ⟨e0, _⟩
      · exact .inl e
      · omega
  have j39 : ∀ g3 : HL, j_X11_findPrices_39 (fun h' _ => KJ SPr h h' ∧ ∃ W : Nat, W ≤ 8 ∧ ∀ n : Nat, n ≤ 5 → okP (h 136) (h' 143) W n 3001) (fun x1 x2 x3 h g => K (x1, x2, x3, h, g)) (fun x1 x2 x3 x4 h g => K2 (x1, x2, x3, x4, h, g)) x1 x2 (nI n) (nI s) h2 g3 := by
    intro g3
    unfold j_X11_findPrices_39
    exact j41 _ _ (.inl rfl)
  refine ⟨fun _ => j39 _, fun c0 => ?_⟩
  have n0 : n = 0 := (nI_eq (by omega) (by omega)).mp (c0.trans nI_0.symm)
  refine c_in3 (fun q => ⟨fun c => absI c, fun _ => j41 _ _ (.inr ⟨n0, rfl⟩)⟩) (fun q => ⟨fun _ => j39 _, fun c => absN c⟩)
theorem ix2' (k t : Nat) : (3001 : Int32) * nI k + nI t = nI (3001 * k + t) := by
  rw [show (3001 : Int32) = nI 3001 from rfl, pk_mul, nI_add]
theorem p_X11_way {h : HI} {g : HL} (hR : RI (h 136)) {x1 x2 x3 x4 : Int32} : w_X11_way x1 x2 x3 x4 h g (fun _ h' _ => KJ SPr h h') := by
  unfold w_X11_way
  refine c_in3 (fun q => ⟨fun c => absI c, fun _ => ?_⟩) (fun q => ⟨fun _ => KJ.rf, fun c => absN c⟩)
  obtain ⟨s, s1, s2, s3, rfl⟩ := bd_nIp (q.mo (c := 1) (d := 3000) (by decide) (by decide)) (by omega)
  refine c_in3 (fun q => ⟨fun c => absI c, fun _ => ?_⟩) (fun q => ⟨fun _ => KJ.rf, fun c => absN c⟩)
  refine c_in3 (fun q => ⟨fun c => absI c, fun _ => ?_⟩) (fun q => ⟨fun _ => KJ.rf, fun c => absN c⟩)
  refine ⟨fun c => ?_, fun _ => KJ.rf⟩
  refine c_v (p_X11_findPrices hR) ?_
  rintro h1 g1 ⟨J1, W, hW, P1⟩
  refine lpE_intro (fun ⟨a_q, b_q, c_q, d_q, h_q, _⟩ => ∃ b n : Nat, b ≤ 5 ∧ 1 ≤ n ∧ n ≤ 6 ∧ nI s = a_q ∧ x4 = b_q ∧ nI b = c_q ∧ nI n = d_q ∧ h1 = h_q) (fun ⟨_, _, _, d_q, _, _⟩ => dil (5 : Int32) d_q) ?_ _ ⟨0, 1, by omega, by omega, by omega, rfl, rfl, nI_0, rfl, rfl⟩
  rintro ⟨y1, y4, y5, y6, h2, g2⟩ K ⟨b, n, hb, n1, n2, rfl, rfl, rfl, rfl, rfl⟩ hK
  have ei : ∀ k t : Nat, (3001 : Int32) * nI k + nI t = nI (3001 * k + t) := fun k t => ix2' k t
  have vi : ∀ k t : Nat, k ≤ 5 → t ≤ 3000 → vp_in (nI (3001 * k + t)) 18006 := fun k t hk ht => vp_in_nI (by omega) (by omega)
  unfold F_X11_way_58; dsimp only; unfold b_X11_way_58
  rw [ei, ei, nI_clamp (n := 3001 * b + s) (by omega), nI_clamp (n := 3001 * n + s) (by omega)]
  refine ⟨fun c5 => ?_, fun c5 => ?_⟩
  · refine and_have (vi b s hb (by omega)) (fun _ => ?_)
    rintro _ rfl
    refine ⟨fun cf => ⟨fun c0 => ⟨fun cb => ?_, fun _ => J1⟩, fun _ => ⟨fun _ => J1, fun _ => J1⟩⟩, fun _ => J1⟩
    obtain ⟨a, ha, rfl⟩ := nI_of (Int32.not_lt.mpr c0)
    rw [nI_ltI (by omega) (by omega)] at cb
    refine lpE_intro (fun ⟨a_q, b_q, c_q, _, e_q, h_q, _⟩ => ∃ k t : Nat, k ≤ a + 1 ∧ 1 ≤ t ∧ t ≤ 3000 ∧ nI a = a_q ∧ nI b = b_q ∧ nI t = c_q ∧ nI k = e_q ∧ h1 = h_q ∧ h1 143 (3001 * (b - k) + t) < 1000000) (fun ⟨_, _, _, _, e_q, _, _⟩ => dil (nI a) e_q) ?_ _ ⟨0, s, by omega, by omega, by omega, rfl, rfl, rfl, nI_0, rfl, cf⟩
    rintro ⟨z4, z5, z7, z8, z9, h3, g3⟩ K2 ⟨k, t, hk, t1, t2, rfl, rfl, rfl, rfl, rfl, hP⟩ hK2
    unfold F_X11_way_170; dsimp only; unfold b_X11_way_170
    refine ⟨fun _ => J1, fun ck => ?_⟩
    have hdk := dil_lt ck (by rw [nI_toInt (by omega)]; omega)
    rw [nI_ltI (by omega) (by omega)] at ck
    obtain ⟨w0, w1, w2⟩ : ∃ w0, w0 < W ∧ bv (h 136) (h1 143) w0 t (b - k - 1) = h1 143 (3001 * (b - k) + t) := by
      rcases (P1 (b - k) (by omega) t t1 (by omega)).2 (by omega) with e | e
      · rw [e] at hP; exact absurd hP (by decide)
      · exact e
    have eF' : h1 136 = h 136 := funext fun k => J1 136 k (by unfold SPr; omega)
    refine lpE_intro (fun ⟨a_q, b_q, c_q, d_q, e_q, h_q, _⟩ => ∃ w : Nat, w ≤ w0 ∧ nI a = a_q ∧ nI b = b_q ∧ nI t = c_q ∧ nI w = d_q ∧ nI k = e_q ∧ h1 = h_q) (fun ⟨_, _, _, d_q, _, _, _⟩ => dif (nI W) d_q) ?_ _ ⟨0, Nat.zero_le _, rfl, rfl, rfl, nI_0, rfl, rfl⟩
    rintro ⟨u4, u5, u7, u8, u9, h4, g4⟩ K3 ⟨w, hw, rfl, rfl, rfl, rfl, rfl, rfl⟩ hK3
    unfold F_X11_way_180; dsimp only; unfold b_X11_way_180
    rw [pk_sub (a := b) (b := k) (by omega), show nI (b - k) - (1 : Int32) = nI (b - k - 1) from pk_sub (a := b - k) (b := 1) (by omega), ei, nI_clamp (n := 3001 * (b - k) + t) (by omega)]
    refine c_i (p_X11_by (by omega) (by omega) (by omega)) ?_
    rintro _ _ _ ⟨rfl, rfl, rfl⟩
    rw [eF']
    refine and_have (vi _ _ (by omega) (by omega)) (fun _ => ⟨fun ce => ?_, fun ce => ?_⟩)
    · rw [show (672 : Int32) + ((4 : Int32) * nI w) = nI (672 + 4 * w) from ix2 672 4 w, nI_clamp (n := 672 + 4 * w) (by omega)]
      refine and_have (vp_in_nI (by omega) (by omega)) (fun _ => ?_)
      rintro _ rfl
      rintro _ rfl
      rw [← ce] at hP
      unfold bv at hP
      by_cases cc : (h 136 (672 + 4 * w + 2)).toInt ≤ (t : Int) ∧ (t : Int) ≤ (h 136 (672 + 4 * w + 3)).toInt ∧ 1 ≤ (nI t + h 136 (672 + 4 * w)).toInt ∧ (nI t + h 136 (672 + 4 * w)).toInt ≤ 3000
      · rw [if_pos cc] at hP
        obtain ⟨t', t1', t2', t3', et⟩ := bd_nIp (a := 1) (b := 3000) (x := nI t + h 136 (672 + 4 * w)) ⟨cc.2.2.1, cc.2.2.2⟩ (by omega)
        rw [et, nI_clamp t3'] at hP
        refine hK2 _ ⟨k + 1, t', by omega, by omega, by omega, rfl, rfl, et.symm, (nI_1 k).symm, rfl, ?_⟩ hdk
        have b1 := (P1 (b - k - 1) (by omega) t' (by omega) (by omega)).1
        have b2 : bd 0 1000 (h 136 (672 + 4 * w + 1)) := (hR.2.2.2.2.2.1 w (by omega)).2
        have e := bd_add b2 b1 (by decide) (by decide)
        have es : (h 136 (672 + 4 * w + 1) + h1 143 (3001 * (b - k - 1) + t')).toInt = (h 136 (672 + 4 * w + 1)).toInt + (h1 143 (3001 * (b - k - 1) + t')).toInt := by
          unfold bd at b1 b2
          exact add_i (by omega) (by omega) (by omega) (by omega)
        rw [Int32.lt_iff_toInt_lt, es] at hP
        rw [show b - (k + 1) = b - k - 1 by omega, Int32.lt_iff_toInt_lt]
        unfold bd at b2
        omega
      · rw [if_neg cc] at hP; exact absurd hP (by decide)
    · have hw2 : w < w0 := by
        have : w ≠ w0 := fun e => ce (by rw [e]; exact w2)
        omega
      rintro _ rfl
      exact hK3 _ ⟨w + 1, by omega, rfl, rfl, rfl, (nI_1 w).symm, rfl, rfl⟩ (dif_lt (by rw [nI_leI (by omega) (by omega)]; omega))
  · have hd := dil_lt c5 (by decide)
    rw [show (5 : Int32) = nI 5 from rfl, nI_ltI (by omega) (by omega)] at c5
    have j100 : ∀ b' : Nat, b' ≤ 5 → j_X11_way_100 (fun _ h' _ => KJ SPr h h') (fun x1 x4 x5 x6 h g => K (x1, x4, x5, x6, h, g)) (nI s) x4 (nI n) (nI b') h1 g2 := by
      intro b' hb'
      unfold j_X11_way_100
      rintro _ rfl
      exact hK _ ⟨b', n + 1, hb', by omega, by omega, rfl, rfl, rfl, (nI_1 n).symm, rfl⟩ hd
    refine and_have (vi n s (by omega) (by omega)) (fun _ => and_have (vi b s hb (by omega)) (fun _ => ⟨fun _ => j100 b hb, fun _ => j100 n (by omega)⟩))
end
section
-- 39.plan
/-! THE PLAN of the reference, and its digest -/
theorem p_X11_isThere {h : HI} {g : HL} (hR : RI (h 136)) {x1 x2 : Int32} : w_X11_isThere x1 x2 h g (fun r h' g' => h = h' ∧ g = g' ∧ (r = 0 ∨ bd 0 2 x1)) := by
  unfold w_X11_isThere
  refine c_is (vp_in_iff.mpr (by decide)) hR.c7 (by decide) (fun q q1 => ⟨fun c => absI c, fun _ => ?_⟩) (fun q => ⟨fun _ => ⟨rfl, rfl, .inl rfl⟩, fun c => absN c⟩)
  have q2 : bd 0 2 x1 := q.mo (by decide) (by decide)
  exact ⟨vp_bd (bd_add (bd_add (bd_lit (n := 817) (by decide)) (bd_mul (n := 2) (by decide) q2 (by decide) (by decide) (by decide)) (by decide) (by decide)) (bd_lit (n := 1) (by decide)) (by decide) (by decide)) (by decide) (by decide), fun _ => ⟨rfl, rfl, .inl rfl⟩, fun _ => ⟨rfl, rfl, .inr q2⟩⟩
theorem p_X11_canOf {h : HI} {g : HL} {x0 x1 : Int32} : w_X11_canOf x0 x1 h g (fun _ h' g' => h = h' ∧ g = g') := by
  unfold w_X11_canOf
  exact ⟨rfl, rfl⟩
/-- a lesson that is taught to one of three -/
def okC (c : Nat) : Prop := c < 48 ∧ c % 4 ≤ 2
theorem p_X11_mayTeach {h : HI} {g : HL} (hR : RI (h 136)) {x1 x2 : Int32} {c : Nat} (hc : c < 48) : w_X11_mayTeach x1 x2 (nI c) h g (fun r h' g' => h = h' ∧ g = g' ∧ (r = 0 ∨ okC c)) := by
  unfold w_X11_mayTeach
  rintro _ rfl
  rintro _ rfl
  rw [show (4 : Int32) = nI 4 from rfl, pk_rem (by omega) (by omega) (by omega)]
  rintro _ rfl
  refine ⟨fun _ => ⟨rfl, rfl, .inl rfl⟩, fun _ => ?_⟩
  refine c_z (p_X11_isThere hR) ?_
  rintro r1 _ _ ⟨rfl, rfl, -⟩
  refine ⟨fun _ => ⟨rfl, rfl, .inl rfl⟩, fun _ => ?_⟩
  refine c_z (p_X11_isThere hR) ?_
  rintro r2 _ _ ⟨rfl, rfl, h2⟩
  refine ⟨fun _ => ⟨rfl, rfl, .inl rfl⟩, fun c2 => ?_⟩
  have ok : okC c := by
    refine ⟨hc, ?_⟩
    rcases h2 with e | e
    · exact absurd e c2
    · unfold bd at e
      rw [nI_toInt (by omega)] at e
      omega
  refine c_i p_X11_canOf ?_
  rintro r3 _ _ ⟨rfl, rfl⟩
  refine ⟨fun _ => ⟨rfl, rfl, .inl rfl⟩, fun _ => ?_⟩
  refine c_i p_X11_canOf ?_
  rintro r4 _ _ ⟨rfl, rfl⟩
  exact ⟨fun _ => ⟨rfl, rfl, .inl rfl⟩, fun _ => ⟨rfl, rfl, .inr ok⟩⟩
theorem shl12 : ∀ j : Nat, j < 12 → (1 : Int32) <<< (nI j &&& 31) = nI (2 ^ j) := by decide +kernel
/-- who can what, when a lesson is through -/
theorem nxt {can c : Nat} (hcan : can < 4096) (hc : okC c) : ∃ t : Nat, t < 4096 ∧ (1 : Int32) <<< (((4 : Int32) * (nI c - nI c / (4 : Int32) * (4 : Int32)) + (nI c / (4 : Int32) - nI c / (4 : Int32) / (4 : Int32) * (4 : Int32))) &&& 31) = nI t ∧ can ||| t < 4096 := by
  have h1 := hc.1
  have h2 := hc.2
  have h3 := Nat.mod_lt (c / 4) (y := 4) (by omega)
  refine ⟨2 ^ (4 * (c % 4) + c / 4 % 4), ?_, ?_, ?_⟩
  · have : 2 ^ (4 * (c % 4) + c / 4 % 4) ≤ 2 ^ 11 := Nat.pow_le_pow_right (by omega) (by omega)
    omega
  · rw [show (4 : Int32) = nI 4 from rfl, pk_rem (by omega) (by omega) (by omega), pk_div (by omega) (by omega) (by omega), pk_rem (by omega) (by omega) (by omega), pk_mul, nI_add]
    exact shl12 _ (by omega)
  · have : 2 ^ (4 * (c % 4) + c / 4 % 4) < 2 ^ 12 := Nat.pow_lt_pow_right (by omega) (by omega)
    exact Nat.or_lt_two_pow (n := 12) hcan this
theorem p_X11_worth {h : HI} {g : HL} (hR : RI (h 136)) {can y : Nat} {x3 : Int32} (hcan : can < 4096) (hy : y ≤ 7) (hx : x3 = -1 ∨ ∃ c, okC c ∧ x3 = nI c) : w_X11_worth (nI can) (nI y) x3 h g (fun _ h' g' => h = h' ∧ g = g') := by
  have j150 : ∀ (t : Nat) (x5 : Int32), t < 4096 → j_X11_worth_150 (fun _ h' g' => h = h' ∧ g = g') (nI y) x5 (nI t) h g := by
    intro t x5 ht
    unfold j_X11_worth_150
    refine ⟨?_, rfl, rfl⟩
    rw [nI_1, show (4096 : Int32) * nI (y + 1) = nI (4096 * (y + 1)) from pk_mul 4096 (y + 1), nI_add]
    exact vp_in_nI (by omega) (by omega)
  unfold w_X11_worth
  refine lpE_intro (fun ⟨a_q, b_q, c_q, _, e_q, h_q, g_q⟩ => ∃ k : Nat, k ≤ 3 ∧ nI can = a_q ∧ nI y = b_q ∧ x3 = c_q ∧ nI k = e_q ∧ h = h_q ∧ g = g_q) (fun ⟨_, _, _, _, e_q, _, _⟩ => dif (nI 3) e_q) ?_ _ ⟨0, by omega, rfl, rfl, rfl, nI_0, rfl, rfl⟩
  rintro ⟨z1, z2, z3, z4, z5, h1, g1⟩ K ⟨k, hk, rfl, rfl, rfl, rfl, rfl, rfl⟩ hK
  unfold F_X11_worth_6; dsimp only; unfold b_X11_worth_6
  refine ⟨fun _ => ?_, fun c => ?_⟩
  · refine lpE_intro (fun ⟨a_q, b_q, c_q, _, _, f_q, h_q, g_q⟩ => ∃ k : Nat, k ≤ 4 ∧ nI can = a_q ∧ nI y = b_q ∧ x3 = c_q ∧ nI k = f_q ∧ h = h_q ∧ g = g_q) (fun ⟨_, _, _, _, _, f_q, _, _⟩ => dif (nI 4) f_q) ?_ _ ⟨0, by omega, rfl, rfl, rfl, nI_0, rfl, rfl⟩
    rintro ⟨u1, u2, u3, u4, u5, u6, h2, g2⟩ K2 ⟨i, hi, rfl, rfl, rfl, rfl, rfl, rfl⟩ hK2
    unfold F_X11_worth_83; dsimp only; unfold b_X11_worth_83
    refine ⟨fun _ => ⟨fun cn => ?_, fun _ => j150 can _ hcan⟩, fun c => ?_⟩
    · rcases hx with e | ⟨c, hc, rfl⟩
      · exact absurd e cn
      · obtain ⟨t, t1, t2, t3⟩ := nxt hcan hc
        rw [t2, nI_or]
        exact j150 _ _ t3
    · have hd := dif_lt (a := nI 4) c
      rw [show (4 : Int32) = nI 4 from rfl, nI_leI (by omega) (by omega)] at c
      have j117 : ∀ a b d : Int32, j_X11_worth_117 (fun _ h' g' => h = h' ∧ g = g') (fun x1 x2 x3 x4 x5 x6 h g => K2 (x1, x2, x3, x4, x5, x6, h, g)) (nI can) (nI y) x3 a (nI i) b d h g := by
        intro a b d
        unfold j_X11_worth_117
        rintro _ rfl
        rintro _ rfl
        exact hK2 _ ⟨i + 1, by omega, rfl, rfl, rfl, (nI_1 i).symm, rfl, rfl⟩ hd
      refine ⟨fun _ => j117 _ _ _, fun _ => ⟨?_, j117 _ _ _⟩⟩
      rw [show (823 : Int32) + nI i = nI (823 + i) from nI_add 823 i]
      exact vp_in_nI (by omega) (by omega)
  · have hd := dif_lt (a := nI 3) c
    rw [show (3 : Int32) = nI 3 from rfl, nI_leI (by omega) (by omega)] at c
    have j68 : ∀ a b : Int32, j_X11_worth_68 (fun _ h' g' => h = h' ∧ g = g') (fun x1 x2 x3 x4 x5 h g => K (x1, x2, x3, x4, x5, h, g)) (nI can) (nI y) x3 (nI k) a b h g := by
      intro a b
      unfold j_X11_worth_68
      rintro _ rfl
      rintro _ rfl
      exact hK _ ⟨k + 1, by omega, rfl, rfl, rfl, (nI_1 k).symm, rfl, rfl⟩ hd
    have j67 : ∀ a : Int32, j_X11_worth_67 (fun _ h' g' => h = h' ∧ g = g') (fun x1 x2 x3 x4 x5 h g => K (x1, x2, x3, x4, x5, h, g)) (nI can) (nI y) x3 (nI k) a h g := by
      intro a
      unfold j_X11_worth_67; exact j68 _ _
    have j39 : ∀ a b : Int32, j_X11_worth_39 (fun _ h' g' => h = h' ∧ g = g') (fun x1 x2 x3 x4 x5 h g => K (x1, x2, x3, x4, x5, h, g)) (nI can) (nI y) x3 a (nI k) b h g := by
      intro a b
      unfold j_X11_worth_39
      refine c_z (p_X11_isThere hR) ?_
      rintro r1 _ _ ⟨rfl, rfl, -⟩
      refine ⟨fun _ => j67 _, fun _ => ⟨fun _ => j67 _, fun _ => ?_⟩⟩
      refine c_i p_X11_canOf ?_
      rintro r3 _ _ ⟨rfl, rfl⟩
      exact j68 _ _
    have j38 : ∀ a : Int32, j_X11_worth_38 (fun _ h' g' => h = h' ∧ g = g') (fun x1 x2 x3 x4 x5 h g => K (x1, x2, x3, x4, x5, h, g)) (nI can) (nI y) x3 a (nI k) h g := by
      intro a
      unfold j_X11_worth_38; exact j39 _ _
    have j34 : ∀ a : Int32, j_X11_worth_34 (fun _ h' g' => h = h' ∧ g = g') (fun x1 x2 x3 x4 x5 h g => K (x1, x2, x3, x4, x5, h, g)) (nI can) (nI y) x3 a (nI k) h g := by
      intro a
      unfold j_X11_worth_34; exact j39 _ _
    exact ⟨fun _ => j38 _, fun _ => ⟨fun _ => j34 _, fun _ => ⟨fun _ => j38 _, fun _ => j34 _⟩⟩⟩
theorem p_X11_choice {h : HI} {g : HL} (hR : RI (h 136)) {can y : Nat} (hcan : can < 4096) (hy : y ≤ 7) : w_X11_choice (nI can) (nI y) h g (fun r h' _ => KJ SPm h h' ∧ (r = -1 ∨ ∃ c, okC c ∧ r = nI c)) := by
  unfold w_X11_choice
  refine c_i (p_X11_worth hR hcan hy (.inl rfl)) ?_
  rintro r1 _ _ ⟨rfl, rfl⟩
  refine lpE_intro (fun ⟨a_q, b_q, _, d_q, e_q, h_q, g_q⟩ => ∃ k : Nat, k ≤ 48 ∧ nI can = a_q ∧ nI y = b_q ∧ nI k = e_q ∧ h = h_q ∧ g = g_q ∧ (d_q = -1 ∨ ∃ c, okC c ∧ d_q = nI c)) (fun ⟨_, _, _, _, e_q, _, _⟩ => dif (nI 48) e_q) ?_ _ ⟨0, by omega, rfl, rfl, nI_0, rfl, rfl, .inl rfl⟩
  rintro ⟨z1, z2, z3, z4, z5, h1, g1⟩ K ⟨k, hk, rfl, rfl, rfl, rfl, rfl, h4⟩ hK
  unfold F_X11_choice_14; dsimp only; unfold b_X11_choice_14
  refine ⟨fun _ => ?_, fun c => ?_⟩
  · rw [show (4096 : Int32) * nI y = nI (4096 * y) from pk_mul 4096 y, nI_add]
    refine and_have (vp_in_nI (by omega) (by omega)) (fun _ => ?_)
    intro h2 e2
    exact ⟨KJ.rf.hu e2 (by unfold SPm; rfl), h4⟩
  · have hd := dif_lt (a := nI 48) c
    rw [show (48 : Int32) = nI 48 from rfl, nI_leI (by omega) (by omega)] at c
    have j57 : ∀ a b : Int32, (b = -1 ∨ ∃ c, okC c ∧ b = nI c) → j_X11_choice_57 (fun r h' _ => KJ SPm h h' ∧ (r = -1 ∨ ∃ c, okC c ∧ r = nI c)) (fun x1 x2 x3 x4 x5 h g => K (x1, x2, x3, x4, x5, h, g)) (nI can) (nI y) a b (nI k) h g := by
      intro a b hb
      unfold j_X11_choice_57
      rintro _ rfl
      exact hK _ ⟨k + 1, by omega, rfl, rfl, (nI_1 k).symm, rfl, rfl, hb⟩ hd
    refine c_z (p_X11_mayTeach hR (by omega)) ?_
    rintro r2 _ _ ⟨rfl, rfl, h2⟩
    refine ⟨fun _ => j57 _ _ h4, fun c2 => ?_⟩
    have ok : okC k := h2.elim (fun e => absurd e c2) id
    refine c_i (p_X11_worth hR hcan hy (.inr ⟨k, ok, rfl⟩)) ?_
    rintro r3 _ _ ⟨rfl, rfl⟩
    refine ⟨fun _ => j57 _ _ h4, fun _ => ?_⟩
    refine c_i (p_X11_worth hR hcan hy (.inr ⟨k, ok, rfl⟩)) ?_
    rintro r4 _ _ ⟨rfl, rfl⟩
    exact j57 _ _ (.inr ⟨k, ok, rfl⟩)
theorem p_X11_plan {h : HI} {g : HL} (hR : RI (h 136)) {x1 x2 : Int32} : w_X11_plan x1 x2 h g (fun _ h' _ => KJ SPm h h') := by
  have nR : ∀ {a : HI}, KJ SPm h a → RI (a 136) := fun J => hR.kj J (fun k => by unfold SPm; omega)
  unfold w_X11_plan
  refine c_in3 (fun q => ⟨fun c => absI c, fun _ => ?_⟩) (fun q => ⟨fun _ => KJ.rf, fun c => absN c⟩)
  obtain ⟨n, n1, n2, n3, rfl⟩ := bd_nIp (q.mo (c := 1) (d := 8) (by decide) (by decide)) (by omega)
  refine c_in3 (fun q2 => ⟨fun _ => ?_, fun c => absI c⟩) (fun q2 => ⟨fun c => absurd rfl c, fun _ => KJ.rf⟩)
  have b2 : bd (-1) ((n : Int) - 1) x2 := by
    rw [Int32.toInt_toInt64, show nI n - (1 : Int32) = nI (n - 1) from pk_sub (a := n) (b := 1) (by omega), nI_toInt (by omega)] at q2
    exact q2.mo (by decide) (by omega)
  refine lpE_intro (fun ⟨a_q, b_q, c_q, h_q, _⟩ => ∃ k : Nat, k ≤ 4096 ∧ nI n = a_q ∧ x2 = b_q ∧ nI k = c_q ∧ KJ SPm h h_q) (fun ⟨_, _, c_q, _, _⟩ => dif (nI 4096) c_q) ?_ _ ⟨0, by omega, rfl, rfl, nI_0, KJ.rf⟩
  rintro ⟨z1, z2, z3, h1, g1⟩ K ⟨k, hk, rfl, rfl, rfl, J1⟩ hK
  unfold F_X11_plan_32; dsimp only; unfold b_X11_plan_32
  refine ⟨fun _ => ?_, fun c => ?_⟩
  · rintro _ rfl
    refine lpE_intro (fun ⟨b_q, c_q, h_q, _⟩ => ∃ m : Nat, m ≤ n ∧ x2 = b_q ∧ nI m - 1 = c_q ∧ KJ SPm h h_q) (fun ⟨_, c_q, _, _⟩ => prd c_q) ?_ _ ⟨n, Nat.le_refl _, rfl, rfl, J1⟩
    rintro ⟨u2, u3, h2, g2⟩ K2 ⟨m, hm, rfl, rfl, J2⟩ hK2
    unfold F_X11_plan_62; dsimp only; unfold b_X11_plan_62
    refine ⟨fun _ => ?_, fun c => ?_⟩
    · obtain ⟨H, hH, hH2, eH⟩ := bd_nI (nR J2).c7
      refine lpE_intro (fun ⟨b_q, c_q, d_q, h_q, g_q⟩ => ∃ i can : Nat, i ≤ H ∧ can < 4096 ∧ x2 = b_q ∧ nI can = c_q ∧ nI i = d_q ∧ h2 = h_q) (fun ⟨_, _, d_q, _, _⟩ => dif (nI H) d_q) ?_ _ ⟨0, 0, by omega, by omega, rfl, nI_0, nI_0, rfl⟩
      rintro ⟨v2, v3, v4, h3, g3⟩ K3 ⟨i, can, hi, hcan, rfl, rfl, rfl, rfl⟩ hK3
      unfold F_X11_plan_102; dsimp only; unfold b_X11_plan_102
      rw [eH]
      refine and_have (vp_in_iff.mpr (by decide)) (fun _ => ⟨fun _ => ⟨fun cx => ?_, fun _ => ⟨vp_in_nI (by omega) (by omega), J2⟩⟩, fun ci => ?_⟩)
      · have hx : x2.toInt ≠ -1 := fun e => cx (Int32.toInt_inj.mp (by rw [e]; decide))
        obtain ⟨a, a1, a2, rfl⟩ := bd_nI (b := (n : Int) - 1) (x := x2) (by unfold bd at b2 ⊢; omega)
        refine lpE_intro (fun ⟨b_q, c_q, d_q, e_q, h_q, _⟩ => ∃ y can : Nat, y ≤ a + 1 ∧ can < 4096 ∧ nI a = b_q ∧ nI can = c_q ∧ nI y = e_q ∧ KJ SPm h h_q) (fun ⟨_, _, _, e_q, _, _⟩ => dil (nI a) e_q) ?_ _ ⟨0, can, by omega, hcan, rfl, rfl, nI_0, J2⟩
        rintro ⟨w2, w3, w4, w5, h4, g4⟩ K4 ⟨y, can', hy, hcan', rfl, rfl, rfl, J4⟩ hK4
        unfold F_X11_plan_159; dsimp only; unfold b_X11_plan_159
        refine ⟨fun _ => ⟨fun _ => J4, fun _ => J4⟩, fun cy => ?_⟩
        have hdy := dil_lt cy (by rw [nI_toInt (by omega)]; omega)
        rw [nI_ltI (by omega) (by omega)] at cy
        refine c_i (p_X11_choice (nR J4) hcan' (by omega)) ?_
        rintro r h5 g5 ⟨J5, hr⟩
        have J5' := J4.tr J5
        have j200 : ∀ t : Nat, t < 4096 → can' ||| t < 4096 → j_X11_plan_200 (fun _ h' _ => KJ SPm h h') (fun x2 x3 x4 x5 h g => K4 (x2, x3, x4, x5, h, g)) (nI a) r (nI y) (nI can') (nI t) h5 g5 := by
          intro t ht ht2
          unfold j_X11_plan_200
          rw [nI_or]
          rintro _ rfl
          rintro _ rfl
          exact hK4 _ ⟨y + 1, can' ||| t, by omega, ht2, rfl, rfl, (nI_1 y).symm, J5'⟩ hdy
        refine ⟨fun cr => ?_, fun _ => j200 0 (by omega) (by rw [Nat.or_zero]; exact hcan')⟩
        rcases hr with e | ⟨c, hc, rfl⟩
        · exact absurd e cr
        · obtain ⟨t, t1, t2, t3⟩ := nxt hcan' hc
          rw [t2]
          exact j200 t t1 t3
      · have hd := dif_lt ci
        rw [nI_leI (by omega) (by omega)] at ci
        obtain ⟨s, s1, s2, es⟩ := bd_nI ((nR J2).hs (bd_of (n := i) (by omega) (by omega) (by omega)))
        rw [es]
        refine and_have (by rw [show (817 : Int32) + ((2 : Int32) * nI i) = nI (817 + 2 * i) from ix2 817 2 i]; exact vp_in_nI (by omega) (by omega)) (fun _ => ?_)
        have hs16 : ∀ s : Nat, s < 16 → ∀ i : Nat, i < 3 → ∃ t : Nat, t < 4096 ∧ nI s <<< (((4 : Int32) * nI i) &&& 31) = nI t := by
          intro s hs i hi
          refine ⟨s * 2 ^ (4 * i), ?_, ?_⟩
          · have : s * 2 ^ (4 * i) ≤ 15 * 2 ^ 8 := Nat.mul_le_mul (by omega) (Nat.pow_le_pow_right (by omega) (by omega))
            omega
          · exact (by decide +kernel : ∀ s : Nat, s < 16 → ∀ i : Nat, i < 3 → nI s <<< (((4 : Int32) * nI i) &&& 31) = nI (s * 2 ^ (4 * i))) s hs i hi
        obtain ⟨t, t1, t2⟩ := hs16 s (by omega) i (by omega)
        rw [t2, nI_or]
        rintro _ rfl
        rintro _ rfl
        exact hK3 _ ⟨i + 1, can ||| t, by omega, Nat.or_lt_two_pow (n := 12) hcan t1, rfl, rfl, (nI_1 i).symm, rfl⟩ hd
    · obtain ⟨p, rfl⟩ : ∃ p, m = p + 1 := ⟨m - 1, by
        have : m ≠ 0 := fun e => c (by rw [e]; decide)
        omega⟩
      have hdp := prd_lt c
      rw [nI_pred] at hK2 hdp ⊢
      refine lpE_intro (fun ⟨b_q, c_q, d_q, h_q, _⟩ => ∃ k : Nat, k ≤ 4096 ∧ x2 = b_q ∧ nI p = c_q ∧ nI k = d_q ∧ KJ SPm h h_q) (fun ⟨_, _, d_q, _, _⟩ => dif (nI 4096) d_q) ?_ _ ⟨0, by omega, rfl, rfl, nI_0, J2⟩
      rintro ⟨v2, v3, v4, h3, g3⟩ K3 ⟨k', hk', rfl, rfl, rfl, J3⟩ hK3
      unfold F_X11_plan_69; dsimp only; unfold b_X11_plan_69
      refine ⟨fun _ => ?_, fun ck => ?_⟩
      · rintro _ rfl
        refine hK2 _ ⟨p, by omega, rfl, ?_, J3⟩ hdp
        cases p with
        | zero => decide
        | succ i => rw [nI_pred, pk_m1]
      · have hd := dif_lt (a := nI 4096) ck
        rw [show (4096 : Int32) = nI 4096 from rfl, nI_leI (by omega) (by omega)] at ck
        refine c_i (p_X11_choice (nR J3) (by omega) (by omega)) ?_
        rintro r h5 g5 ⟨J5, -⟩
        rintro _ rfl
        exact hK3 _ ⟨k' + 1, by omega, rfl, rfl, (nI_1 k').symm, J3.tr J5⟩ hd
  · have hd := dif_lt (a := nI 4096) c
    rw [show (4096 : Int32) = nI 4096 from rfl, nI_leI (by omega) (by omega)] at c
    rw [show (4096 : Int32) = nI 4096 from rfl, pk_mul, nI_add]
    refine and_have (vp_in_nI (by omega) (by omega)) (fun _ => ?_)
    intro h2 e2
    rintro _ rfl
    exact hK _ ⟨k + 1, by omega, rfl, rfl, (nI_1 k).symm, J1.hu e2 (by unfold SPm; rfl)⟩ hd
end
section
-- 40.inv
/-! WHAT HOLDS BETWEEN CALLS (counts) -/
def wJL : List Nat := [5, 3, 6, 15, 4, 1, 3, 2, 2, 2, 1, 1]
def MJL : List Nat := [24, 4, 60, 16, 8, 6, 9, 1, 40, 3, 4, 60]
def cpL : List Nat := [0, 99, 1, 2, 3, 4, 5, 98, 6, 7, 97, 8]
def wJ (j : Nat) : Nat := wJL.getD j 0
def MJ (j : Nat) : Nat := MJL.getD j 0
def cpJ (j : Nat) : Nat := cpL.getD j 0
/-- how many rows a table of the shop has: as the reference counts them, or fixed -/
def cOK (j m : Nat) (f : Nat → Int32) : Prop := if j = 1 ∨ j = 10 then m = 4 else if j = 7 then m = 1 else f (cpJ j) = nI m
def CN (h : HI) (s : Nat) (f : Nat → Int32) : Prop := ∀ j, j < 12 → ∃ m, TT h (s + (1 + 2 * j)) m (wJ j) (MJ j) ∧ cOK j m f
def CJ (h : HI) : Prop := ∀ s, isS s → ∀ j, j < 12 → ∃ m, TT h (s + (1 + 2 * j)) m (wJ j) (MJ j)
theorem CJ.ci {h : HI} (c : CJ h) : CI h := fun o ho => by
  obtain ⟨s, hs, j, hj, e⟩ := (by decide +kernel : ∀ o ∈ isTL, ∃ s ∈ isSL, ∃ j, j < 12 ∧ o = s + (1 + 2 * j)) o ho
  subst e
  obtain ⟨m, T⟩ := c s hs j hj
  exact ⟨m, _, _, T⟩
def rg (k : Nat) : Int × Int :=
  if k = 0 then (0, 24) else if k = 1 then (0, 60) else if k = 2 then (0, 16) else if k = 3 then (0, 8) else if k = 4 then (0, 6) else if k = 5 then (0, 9) else if k = 6 then (0, 40) else if k = 7 then (0, 3) else if k = 8 then (0, 60) else if k = 9 then (0, 9) else if k = 10 then (0, 9)
  else if 20 ≤ k ∧ k < 140 then (if (k - 20) % 5 = 0 then (0, 100) else if (k - 20) % 5 = 3 then (-1, 3) else (-2147483648, 2147483647))
  else if 140 ≤ k ∧ k < 152 then (if (k - 140) % 3 = 1 then (1, 100000) else (-2147483648, 2147483647))
  else if 152 ≤ k ∧ k < 512 then (if (k - 152) % 6 = 0 then (0, 23) else (-2147483648, 2147483647))
  else if 512 ≤ k ∧ k < 672 then (if (k - 512) % 10 = 2 then (0, 6) else if 3 ≤ (k - 512) % 10 ∧ (k - 512) % 10 ≤ 8 then (0, 23) else (-2147483648, 2147483647))
  else if 672 ≤ k ∧ k < 704 then (if (k - 672) % 4 = 0 then (-500, 500) else if (k - 672) % 4 = 1 then (0, 1000) else (-2147483648, 2147483647))
  else if 817 ≤ k ∧ k < 823 then (if (k - 817) % 2 = 0 then (0, 15) else (-2147483648, 2147483647))
  else (-2147483648, 2147483647)
def okR (k : Nat) (x : Int32) : Prop := bd (rg k).1 (rg k).2 x
def RG (f : Nat → Int32) : Prop := ∀ k, okR k (f k)
theorem RG.set {f : Nat → Int32} {k : Nat} {x : Int32} (r : RG f) (h : okR k x) : RG (upd f k x) := fun i => by
  by_cases e : i = k
  · subst e; rw [pk_us]; exact h
  · rw [pk_un e]; exact r i
theorem bd_all (x : Int32) : bd (-2147483648) 2147483647 x := ⟨Int32.le_toInt x, by have := Int32.toInt_lt x; omega⟩
theorem RG.ri {f : Nat → Int32} (r : RG f) : RI f := by
  refine ⟨⟨r 0, r 1, r 2, r 3, r 4, r 5, r 6, r 7, r 8, r 9, r 10⟩, ?_, ?_, ?_, ?_, ?_, ?_⟩
  · intro p hp
    constructor
    · have := r (20 + 5 * p)
      unfold okR rg at this
      rw [if_neg (by omega), if_neg (by omega), if_neg (by omega), if_neg (by omega), if_neg (by omega), if_neg (by omega), if_neg (by omega), if_neg (by omega), if_neg (by omega), if_neg (by omega), if_neg (by omega), if_pos (by omega), if_pos (by omega)] at this
      exact this
    · have := r (20 + 5 * p + 3)
      unfold okR rg at this
      rw [if_neg (by omega), if_neg (by omega), if_neg (by omega), if_neg (by omega), if_neg (by omega), if_neg (by omega), if_neg (by omega), if_neg (by omega), if_neg (by omega), if_neg (by omega), if_neg (by omega), if_pos (by omega), if_neg (by omega), if_pos (by omega)] at this
      exact this
  · intro p hp
    have := r (140 + 3 * p + 1)
    unfold okR rg at this
    rw [if_neg (by omega), if_neg (by omega), if_neg (by omega), if_neg (by omega), if_neg (by omega), if_neg (by omega), if_neg (by omega), if_neg (by omega), if_neg (by omega), if_neg (by omega), if_neg (by omega), if_neg (by omega), if_pos (by omega), if_pos (by omega)] at this
    exact this
  · intro p hp
    have := r (152 + 6 * p)
    unfold okR rg at this
    rw [if_neg (by omega), if_neg (by omega), if_neg (by omega), if_neg (by omega), if_neg (by omega), if_neg (by omega), if_neg (by omega), if_neg (by omega), if_neg (by omega), if_neg (by omega), if_neg (by omega), if_neg (by omega), if_neg (by omega), if_pos (by omega), if_pos (by omega)] at this
    exact this
  · intro p hp
    constructor
    · have := r (512 + 10 * p + 2)
      unfold okR rg at this
      rw [if_neg (by omega), if_neg (by omega), if_neg (by omega), if_neg (by omega), if_neg (by omega), if_neg (by omega), if_neg (by omega), if_neg (by omega), if_neg (by omega), if_neg (by omega), if_neg (by omega), if_neg (by omega), if_neg (by omega), if_neg (by omega), if_pos (by omega), if_pos (by omega)] at this
      exact this
    · intro k hk
      have := r (512 + 10 * p + (3 + k))
      unfold okR rg at this
      rw [if_neg (by omega), if_neg (by omega), if_neg (by omega), if_neg (by omega), if_neg (by omega), if_neg (by omega), if_neg (by omega), if_neg (by omega), if_neg (by omega), if_neg (by omega), if_neg (by omega), if_neg (by omega), if_neg (by omega), if_neg (by omega), if_pos (by omega), if_neg (by omega), if_pos (by omega)] at this
      exact this
  · intro p hp
    constructor
    · have := r (672 + 4 * p)
      unfold okR rg at this
      rw [if_neg (by omega), if_neg (by omega), if_neg (by omega), if_neg (by omega), if_neg (by omega), if_neg (by omega), if_neg (by omega), if_neg (by omega), if_neg (by omega), if_neg (by omega), if_neg (by omega), if_neg (by omega), if_neg (by omega), if_neg (by omega), if_neg (by omega), if_pos (by omega), if_pos (by omega)] at this
      exact this
    · have := r (672 + 4 * p + 1)
      unfold okR rg at this
      rw [if_neg (by omega), if_neg (by omega), if_neg (by omega), if_neg (by omega), if_neg (by omega), if_neg (by omega), if_neg (by omega), if_neg (by omega), if_neg (by omega), if_neg (by omega), if_neg (by omega), if_neg (by omega), if_neg (by omega), if_neg (by omega), if_neg (by omega), if_pos (by omega), if_neg (by omega), if_pos (by omega)] at this
      exact this
  · intro p hp
    have := r (817 + 2 * p)
    unfold okR rg at this
    rw [if_neg (by omega), if_neg (by omega), if_neg (by omega), if_neg (by omega), if_neg (by omega), if_neg (by omega), if_neg (by omega), if_neg (by omega), if_neg (by omega), if_neg (by omega), if_neg (by omega), if_neg (by omega), if_neg (by omega), if_neg (by omega), if_neg (by omega), if_neg (by omega), if_pos (by omega), if_pos (by omega)] at this
    exact this
def IMG (h : HI) (i : Nat) : Nat → Int32 := fun k => h 137 (887 * i + k)
def KF (h : HI) : Prop := h 76 0 = h 138 0 ∧ h 76 1 = h 138 1
def INV (h : HI) : Prop := CJ h ∧ RG (h 136) ∧ WI h ∧ CN h 1 (h 136) ∧ KF h ∧ ∀ i, i < 2 → ¬ h 138 i = 0 → CN h (26 + 25 * i) (IMG h i) ∧ RG (IMG h i)
theorem isS1 : isS 1 := by unfold isS; decide
theorem isS26 {i : Nat} (h : i < 2) : isS (26 + 25 * i) := by
  have : i = 0 ∨ i = 1 := by omega
  rcases this with rfl | rfl <;> (unfold isS; decide)
theorem CN.cg {h h' : HI} {s : Nat} {f f' : Nat → Int32} (c : CN h s f) (e : ∀ o, s + 1 ≤ o → o ≤ s + 24 → h' o = h o) (ef : ∀ i, i < 9 → f' i = f i) : CN h' s f' := fun j hj => by
  obtain ⟨m, T, k⟩ := c j hj
  refine ⟨m, T.cg (e _ (by omega) (by omega)), ?_⟩
  unfold cOK at k ⊢
  by_cases c1 : j = 1 ∨ j = 10
  · rw [if_pos c1] at k ⊢; exact k
  · rw [if_neg c1] at k ⊢
    by_cases c2 : j = 7
    · rw [if_pos c2] at k ⊢; exact k
    · rw [if_neg c2] at k ⊢
      have : cpJ j < 9 := (by decide : ∀ j, j < 12 → ¬ (j = 1 ∨ j = 10) → ¬ j = 7 → cpJ j < 9) j hj c1 c2
      rw [ef _ this]; exact k
theorem CJ.cg {h h' : HI} (c : CJ h) (e : ∀ o, o ≤ 75 → h' o = h o) : CJ h' := fun s hs j hj => by
  obtain ⟨m, T⟩ := c s hs j hj
  have : s ≤ 51 := (by decide : ∀ s ∈ isSL, s ≤ 51) s hs
  exact ⟨m, T.cg (e _ (by omega))⟩
/-- calls that change no table -/
theorem INV.cg {h h' : HI} (v : INV h) (e : ∀ o, o ≤ 76 → h' o = h o) (e6 : h' 136 = h 136) (e7 : h' 137 = h 137) (e8 : h' 138 = h 138) (w : WI h') : INV h' := by
  obtain ⟨a, b, c, d, k, im⟩ := v
  refine ⟨a.cg (fun o ho => e o (by omega)), by rw [e6]; exact b, w, ?_, ?_, ?_⟩
  · exact d.cg (fun o h1 h2 => e o (by omega)) (fun i hi => by rw [e6])
  · unfold KF; rw [e 76 (by omega), e8]; exact k
  · intro i hi hn
    rw [e8] at hn
    have eI : IMG h' i = IMG h i := by unfold IMG; rw [e7]
    rw [eI]
    exact ⟨(im i hi hn).1.cg (fun o h1 h2 => e o (by omega)) (fun _ _ => rfl), (im i hi hn).2⟩
/-- calls that change one table -/
theorem INV.mut {h h' : HI} (v : INV h) {j m : Nat} (hj : j < 12) (e : ∀ o, o ≤ 76 → o ≠ 1 + (1 + 2 * j) → o ≠ 2 + (1 + 2 * j) → h' o = h o) (T : TT h' (1 + (1 + 2 * j)) m (wJ j) (MJ j)) (k : cOK j m (h' 136)) (r : RG (h' 136)) (ef : ∀ i, i < 9 → i ≠ cpJ j → h' 136 i = h 136 i) (e7 : h' 137 = h 137) (e8 : h' 138 = h 138) (w : WI h') : INV h' := by
  obtain ⟨a, b, c, d, kf, im⟩ := v
  refine ⟨?_, r, w, ?_, ?_, ?_⟩
  · intro s hs i hi
    have hs' : s = 1 ∨ s = 26 ∨ s = 51 := (by decide : ∀ s ∈ isSL, s = 1 ∨ s = 26 ∨ s = 51) s hs
    by_cases q : s = 1 ∧ i = j
    · obtain ⟨rfl, rfl⟩ := q; exact ⟨m, T⟩
    · obtain ⟨m', T'⟩ := a s hs i hi
      exact ⟨m', T'.cg (e _ (by omega) (by omega) (by omega))⟩
  · intro i hi
    by_cases q : i = j
    · subst q; exact ⟨m, T, k⟩
    · obtain ⟨m', T', k'⟩ := d i hi
      refine ⟨m', T'.cg (e _ (by omega) (by omega) (by omega)), ?_⟩
      unfold cOK at k' ⊢
      by_cases c1 : i = 1 ∨ i = 10
      · rw [if_pos c1] at k' ⊢; exact k'
      · rw [if_neg c1] at k' ⊢
        by_cases c2 : i = 7
        · rw [if_pos c2] at k' ⊢; exact k'
        · rw [if_neg c2] at k' ⊢
          have h1 : cpJ i < 9 := (by decide : ∀ j, j < 12 → ¬ (j = 1 ∨ j = 10) → ¬ j = 7 → cpJ j < 9) i hi c1 c2
          have h2 : cpJ i ≠ cpJ j := (by decide : ∀ i, i < 12 → ∀ j, j < 12 → i ≠ j → cpJ i ≠ cpJ j) i hi j hj q
          rw [ef _ h1 h2]; exact k'
  · unfold KF; rw [e 76 (by omega) (by omega) (by omega), e8]; exact kf
  · intro i hi hn
    rw [e8] at hn
    have eI : IMG h' i = IMG h i := by unfold IMG; rw [e7]
    rw [eI]
    exact ⟨(im i hi hn).1.cg (fun o h1 h2 => e o (by omega) (by omega) (by omega)) (fun _ _ => rfl), (im i hi hn).2⟩
/-- the class's tables, one or two of them changed -/
def SM (o q : Nat) : Prop := q = o ∨ q = o + 1 ∨ 77 ≤ q ∧ q ≤ 134
def ADc (C : Prop) (h : HI) (r : Int32) (h' : HI) (o m w M k : Nat) : Prop :=
  (¬ C ∧ r = -2 ∧ h' = h) ∨ (C ∧ m = M ∧ r = -4 ∧ h' = h) ∨ (C ∧ m < M ∧ r = nI (m + k) ∧ JJ (SM o) h h' ∧ TT h' o (m + 1) w M)
def ADr (C : Prop) (h : HI) (r : Int32) (h' : HI) (c m M k : Nat) : Prop :=
  (¬ C ∧ r = -2 ∧ h' = h) ∨ (C ∧ m = M ∧ r = -4 ∧ h' = h) ∨ (C ∧ m < M ∧ r = nI (m + k) ∧ (∀ o, o ≠ 136 → h' o = h o) ∧ h' 136 c = nI (m + 1) ∧ (∀ i, i < 9 → i ≠ c → h' 136 i = h 136 i) ∧ RG (h' 136))
theorem step_add {C : Prop} {h h1 h2 : HI} {r s : Int32} {j m k : Nat} (v : INV h) (hj : j < 12) (hv : ¬ (j = 1 ∨ j = 10) ∧ ¬ j = 7) (a : ADc C h r h1 (1 + (1 + 2 * j)) m (wJ j) (MJ j) k) (b : ADr C h1 s h2 (cpJ j) m (MJ j) k) : r = s ∧ INV h2 := by
  rcases a with ⟨a1, a2, rfl⟩ | ⟨a1, a3, a2, rfl⟩ | ⟨a1, a3, a2, J, T⟩
  · rcases b with ⟨b1, b2, rfl⟩ | ⟨b1, b3, b2, rfl⟩ | ⟨b1, b3, b2, b4⟩
    · exact ⟨a2.trans b2.symm, v⟩
    · exact absurd b1 a1
    · exact absurd b1 a1
  · rcases b with ⟨b1, b2, rfl⟩ | ⟨b1, b3, b2, rfl⟩ | ⟨b1, b3, b2, b4⟩
    · exact absurd a1 b1
    · exact ⟨a2.trans b2.symm, v⟩
    · omega
  · rcases b with ⟨b1, b2, rfl⟩ | ⟨b1, b3, b2, rfl⟩ | ⟨b1, b3, b2, e, ec, ef, R⟩
    · exact absurd a1 b1
    · omega
    · have n1 : ∀ o, 135 ≤ o → h1 o = h o := fun o ho => J o (by unfold SM; omega)
      refine ⟨a2.trans b2.symm, v.mut hj (m := m + 1) ?_ (T.cg (e _ (by omega))) ?_ R ?_ ?_ ?_ ?_⟩
      · intro o h1' h2' h3'
        rw [e o (by omega)]
        exact J o (by unfold SM; omega)
      · unfold cOK
        rw [if_neg hv.1, if_neg hv.2]; exact ec
      · intro i hi hn
        rw [ef i hi hn, n1 136 (by omega)]
      · rw [e 137 (by omega), n1 137 (by omega)]
      · rw [e 138 (by omega), n1 138 (by omega)]
      · exact v.2.2.1.cg (by rw [e 147 (by omega), n1 147 (by omega)]) (by rw [e 147 (by omega), n1 147 (by omega)])
theorem c_wb {a b c : Int32} {h : HI} {g : HL} {body : Int32 → HI → HL → Prop} (h1 : bd b.toInt c.toInt a → body 1 h g) (h0 : ¬ bd b.toInt c.toInt a → body 0 h g) : ∃ P : Int32 → HI → HL → Prop, w_X10_within a b c h g P ∧ ∀ (r : Int32) (h : HI) (g : HL), zb r → P r h g → body r h g :=
  c_w (fun u v => h1 ⟨by rw [Int32.le_iff_toInt_le] at u; exact u, by rw [Int32.le_iff_toInt_le] at v; exact v⟩) (fun u => h0 (fun q => by
    rw [Int32.lt_iff_toInt_lt, Int32.lt_iff_toInt_lt] at u
    unfold bd at q; omega))
theorem c_hb {o : Nat} {a : Int32} {h : HI} {g : HL} {body : Int32 → HI → HL → Prop} (h1 : isRow (h o 3) a → body 1 h g) (h0 : ¬ isRow (h o 3) a → body 0 h g) : ∃ P : Int32 → HI → HL → Prop, w_X8_has o a h g P ∧ ∀ (r : Int32) (h : HI) (g : HL), zb r → P r h g → body r h g :=
  c_h (fun u v => h1 (isRow_c u v)) (fun u => h0 (isRow_n u))
end
