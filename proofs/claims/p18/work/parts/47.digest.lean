/-! THE REFERENCE'S DIGEST: it goes through -/
theorem SLt.ff : ∀ o k, SRd o k → SFf o k := fun o k h => by unfold SRd at h; unfold SFf; omega
set_option maxHeartbeats 1000000 in
theorem p_X11_digest {h : HI} {g : HL} (hR : RI (h 136)) : w_X11_digest h g (fun _ h' _ => KJ SFf h h') := by
  have nR : ∀ {a : HI}, KJ SFf h a → RI (a 136) := fun J => hR.kj J (fun k => by unfold SFf; omega)
  have v0 : vp_in (0 : Int32) 887 := vp_in_iff.mpr (by decide)
  have v1 : vp_in (1 : Int32) 887 := vp_in_iff.mpr (by decide)
  have v2 : vp_in (2 : Int32) 887 := vp_in_iff.mpr (by decide)
  have v3 : vp_in (3 : Int32) 887 := vp_in_iff.mpr (by decide)
  have v4 : vp_in (4 : Int32) 887 := vp_in_iff.mpr (by decide)
  have v5 : vp_in (5 : Int32) 887 := vp_in_iff.mpr (by decide)
  have v6 : vp_in (6 : Int32) 887 := vp_in_iff.mpr (by decide)
  have v7 : vp_in (7 : Int32) 887 := vp_in_iff.mpr (by decide)
  have v8 : vp_in (8 : Int32) 887 := vp_in_iff.mpr (by decide)
  unfold w_X11_digest
  refine lpE_intro (fun ⟨_, b_q, h_q, _⟩ => ∃ k : Nat, k ≤ 10 ∧ nI k = b_q ∧ h = h_q) (fun ⟨_, b_q, _, _⟩ => dif (nI 10) b_q) ?_ _ ⟨0, by omega, nI_0, rfl⟩
  rintro ⟨y1, y3, h1, g1⟩ K ⟨k, hk, rfl, rfl⟩ hK
  unfold F_X11_digest_6; dsimp only; unfold b_X11_digest_6
  refine ⟨fun _ => ?_, fun c => ?_⟩
  · refine lpE_intro (fun ⟨_, b_q, h_q, _⟩ => ∃ p : Nat, p ≤ 24 ∧ nI p = b_q ∧ KJ SFf h h_q) (fun ⟨_, b_q, _, _⟩ => dif (nI 24) b_q) ?_ _ ⟨0, by omega, nI_0, KJ.rf⟩
    rintro ⟨z1, z3, h2, g2⟩ K2 ⟨p, hp, rfl, J2⟩ hK2
    unfold F_X11_digest_33; dsimp only; unfold b_X11_digest_33
    have R2 := nR J2
    obtain ⟨n, n1, n2, en⟩ := bd_nI R2.c0
    rw [en]
    refine and_have v0 (fun _ => ⟨fun _ => ?_, fun c => ?_⟩)
    · refine c_l (p_X11_mixed (a := 140) (n := 12) (by omega)) ?_
      rintro r1 _ _ ⟨rfl, rfl⟩
      obtain ⟨s, s1, s2, es⟩ := bd_nI R2.c1
      refine and_have v1 (fun _ => ?_)
      rw [es, show (6 : Int32) * nI s = nI (6 * s) from pk_mul 6 s]
      refine c_l (p_X11_mixed (a := 152) (n := 6 * s) (by omega)) ?_
      rintro r2 _ _ ⟨rfl, rfl⟩
      refine lpE_intro (fun ⟨_, b_q, h_q, _⟩ => ∃ q : Nat, q ≤ 16 ∧ nI q = b_q ∧ h2 = h_q) (fun ⟨_, b_q, _, _⟩ => dif (nI 16) b_q) ?_ _ ⟨0, by omega, nI_0, rfl⟩
      rintro ⟨w1, w3, h3, g3⟩ K3 ⟨q, hq, rfl, rfl⟩ hK3
      unfold F_X11_digest_134; dsimp only; unfold b_X11_digest_134
      obtain ⟨m, m1, m2, emm⟩ := bd_nI R2.c2
      rw [emm]
      refine and_have v2 (fun _ => ⟨fun _ => ?_, fun c => ?_⟩)
      · obtain ⟨a3, b3, d3, e3⟩ := bd_nI R2.c3
        refine and_have v3 (fun _ => ?_)
        rw [e3, show (4 : Int32) * nI a3 = nI (4 * a3) from pk_mul 4 a3]
        refine c_l (p_X11_mixed (a := 672) (n := 4 * a3) (by omega)) ?_
        rintro r3 _ _ ⟨rfl, rfl⟩
        obtain ⟨a4, b4, d4, e4⟩ := bd_nI R2.c4
        refine and_have v4 (fun _ => ?_)
        rw [e4]
        refine c_l (p_X11_mixed (a := 704) (n := a4) (by omega)) ?_
        rintro r4 _ _ ⟨rfl, rfl⟩
        obtain ⟨a5, b5, d5, e5⟩ := bd_nI R2.c5
        refine and_have v5 (fun _ => ?_)
        rw [e5, show (3 : Int32) * nI a5 = nI (3 * a5) from pk_mul 3 a5]
        refine c_l (p_X11_mixed (a := 710) (n := 3 * a5) (by omega)) ?_
        rintro r5 _ _ ⟨rfl, rfl⟩
        refine c_l (p_X11_mixed (a := 9) (n := 2) (by omega)) ?_
        rintro r6 _ _ ⟨rfl, rfl⟩
        obtain ⟨a6, b6, d6, e6⟩ := bd_nI R2.c6
        refine and_have v6 (fun _ => ?_)
        rw [e6, show (2 : Int32) * nI a6 = nI (2 * a6) from pk_mul 2 a6]
        refine c_l (p_X11_mixed (a := 737) (n := 2 * a6) (by omega)) ?_
        rintro r7 _ _ ⟨rfl, rfl⟩
        obtain ⟨a7, b7, d7, e7⟩ := bd_nI R2.c7
        refine and_have v7 (fun _ => ?_)
        rw [e7, show (2 : Int32) * nI a7 = nI (2 * a7) from pk_mul 2 a7]
        refine c_l (p_X11_mixed (a := 817) (n := 2 * a7) (by omega)) ?_
        rintro r8 _ _ ⟨rfl, rfl⟩
        refine c_l (p_X11_mixed (a := 823) (n := 4) (by omega)) ?_
        rintro r9 _ _ ⟨rfl, rfl⟩
        obtain ⟨a8, b8, d8, e8⟩ := bd_nI R2.c8
        refine and_have v8 (fun _ => ?_)
        rw [e8]
        refine c_l (p_X11_mixed (a := 827) (n := a8) (by omega)) ?_
        rintro r10 _ _ ⟨rfl, rfl⟩
        exact J2
      · have hd := dif_lt (a := nI 16) (x := nI q) (by
          rw [nI_leI (by omega) (by omega)] at c ⊢; omega)
        rw [nI_leI (by omega) (by omega)] at c
        rw [show (512 : Int32) + ((10 : Int32) * nI q) = nI (512 + 10 * q) from ix2 512 10 q]
        refine c_l (p_X11_mixed (a := 512 + 10 * q) (n := 3) (by omega)) ?_
        rintro r3 _ _ ⟨rfl, rfl⟩
        have bq : bd 0 15 (nI q) := bd_of (by omega) (by omega) (by omega)
        refine lpE_intro (fun ⟨_, b_q, c_q, h_q, _⟩ => ∃ i : Nat, i ≤ 6 ∧ nI q = b_q ∧ nI i = c_q ∧ h2 = h_q) (fun ⟨_, _, c_q, _, _⟩ => dif (nI 6) c_q) ?_ _ ⟨0, by omega, rfl, nI_0, rfl⟩
        rintro ⟨u1, u3, u4, h4, g4⟩ K4 ⟨i, hi, rfl, rfl, rfl⟩ hK4
        unfold F_X11_digest_162; dsimp only; unfold b_X11_digest_162
        refine c_i (p_X11_chainOf R2 bq ((bd_lit (n := 2) (by decide)).mo (by decide) (by decide))) ?_
        rintro _ _ _ ⟨rfl, rfl, rfl⟩
        obtain ⟨cm, cm1, cm2, ecm⟩ := bd_nI (R2.cm bq)
        rw [ecm]
        refine ⟨fun _ => ?_, fun ci => ?_⟩
        · rintro _ rfl
          exact hK3 _ ⟨q + 1, by omega, (nI_1 q).symm, rfl⟩ hd
        · have hdi := dif_lt (a := nI 6) (x := nI i) (by
            rw [nI_leI (by omega) (by omega)] at ci ⊢; omega)
          rw [nI_leI (by omega) (by omega)] at ci
          have bi : bd 0 9 ((3 : Int32) + nI i) := by
            rw [show (3 : Int32) + nI i = nI (3 + i) from nI_add 3 i]; exact bd_of (by omega) (by omega) (by omega)
          refine c_i (p_X11_chainOf R2 bq bi) ?_
          rintro _ _ _ ⟨rfl, rfl, rfl⟩
          refine c_i (p_X11_chainOf R2 bq ((bd_lit (n := 9) (by decide)).mo (by decide) (by decide))) ?_
          rintro _ _ _ ⟨rfl, rfl, rfl⟩
          rintro x1 e1
          rintro _ rfl
          exact hK4 _ ⟨i + 1, by omega, rfl, (nI_1 i).symm, rfl⟩ hdi
    · have hd := dif_lt (a := nI 24) (x := nI p) (by
        rw [nI_leI (by omega) (by omega)] at c ⊢; omega)
      rw [nI_leI (by omega) (by omega)] at c
      rw [show (20 : Int32) + ((5 : Int32) * nI p) = nI (20 + 5 * p) from ix2 20 5 p]
      refine c_l (p_X11_mixed (a := 20 + 5 * p) (n := 4) (by omega)) ?_
      rintro r1 _ _ ⟨rfl, rfl⟩
      have bp : bd 0 23 (nI p) := bd_of (by omega) (by omega) (by omega)
      refine lpE_intro (fun ⟨_, b_q, c_q, h_q, _⟩ => ∃ i : Nat, i ≤ 3 ∧ nI p = b_q ∧ nI i = c_q ∧ KJ SFf h h_q) (fun ⟨_, _, c_q, _, _⟩ => dif (nI 3) c_q) ?_ _ ⟨0, by omega, rfl, nI_0, J2⟩
      rintro ⟨u1, u3, u4, h4, g4⟩ K4 ⟨i, hi, rfl, rfl, J4⟩ hK4
      unfold F_X11_digest_59; dsimp only; unfold b_X11_digest_59
      refine ⟨fun _ => ?_, fun ci => ?_⟩
      · refine c_i (p_X11_alongOf (nR J4)) ?_
        rintro r2 _ _ ⟨rfl, rfl⟩
        rintro x1 e1
        rintro _ rfl
        exact hK2 _ ⟨p + 1, by omega, (nI_1 p).symm, J4⟩ hd
      · have hdi := dif_lt (a := nI 3) ci
        rw [show (3 : Int32) = nI 3 from rfl, nI_leI (by omega) (by omega)] at ci
        refine c_i (p_X11_firstOf (nR J4) bp) ?_
        rintro r2 h5 g5 J5
        rintro x1 e1
        rintro _ rfl
        exact hK4 _ ⟨i + 1, by omega, rfl, (nI_1 i).symm, J4.tr J5⟩ hdi
  · have hd := dif_lt (a := nI 10) c
    rw [show (10 : Int32) = nI 10 from rfl, nI_leI (by omega) (by omega)] at c
    refine c_i (p_X11_countOf hR (bd_of (n := k) (by omega) (by omega) (by omega))) ?_
    rintro r1 _ _ ⟨rfl, rfl⟩
    rintro x1 e1
    rintro _ rfl
    exact hK _ ⟨k + 1, by omega, (nI_1 k).symm, rfl⟩ hd
