theorem p_X11_sayOf {h : HI} {g : HL} (hR : RI (h 136)) {x1 : Int32} {x2 : Int32} (b_x1 : bd (0) (59) x1) (b_x2 : bd (0) (5) x2)  : w_X11_sayOf x1 x2 h g (fun r h' g' => h = h' ∧ g = g' ∧ (h 136 (((152 : Int32) + ((6 : Int32) * x1)) + x2).toNatClampNeg) = r) := by
  unfold w_X11_sayOf
  refine and_have (by exact vp_bd (bd_add (bd_add (bd_lit (n := 152) (by decide)) (bd_mul (n := 6) (by decide) (by with_reducible assumption) (by decide) (by decide) (by decide)) (by decide) (by decide)) (by with_reducible assumption) (by decide) (by decide)) (by decide) (by decide)) (fun hv => ?_)
  exact ⟨rfl, rfl, rfl⟩
theorem p_X11_chainOf {h : HI} {g : HL} (hR : RI (h 136)) {x1 : Int32} {x2 : Int32} (b_x1 : bd (0) (15) x1) (b_x2 : bd (0) (9) x2)  : w_X11_chainOf x1 x2 h g (fun r h' g' => h = h' ∧ g = g' ∧ (h 136 (((512 : Int32) + ((10 : Int32) * x1)) + x2).toNatClampNeg) = r) := by
  unfold w_X11_chainOf
  refine and_have (by exact vp_bd (bd_add (bd_add (bd_lit (n := 512) (by decide)) (bd_mul (n := 10) (by decide) (by with_reducible assumption) (by decide) (by decide) (by decide)) (by decide) (by decide)) (by with_reducible assumption) (by decide) (by decide)) (by decide) (by decide)) (fun hv => ?_)
  exact ⟨rfl, rfl, rfl⟩
theorem p_X11_lets {h : HI} {g : HL} (hR : RI (h 136)) {x1 : Int32} (b_x1 : bd (0) (59) x1)  : w_X11_lets x1 h g (fun h' g' => KJ (SLt) h h') := by
  unfold w_X11_lets
  have hJ : KJ (SLt) h h := KJ.rf
  refine c_i (p_X11_sayOf hR (bd.mo (by with_reducible assumption) (by decide) (by decide)) (bd.mo (bd_lit (n := 1) (by decide)) (by decide) (by decide)) ) ?_
  rintro _ _ _ ⟨rfl, rfl, rfl⟩
  refine ⟨fun c => ?_, fun c => ?_⟩
  · skip
    unfold j_X11_lets_31
    refine ⟨fun c => ?_, fun c => ?_⟩
    · skip
      refine c_i (p_X11_sayOf hR (bd.mo (by with_reducible assumption) (by decide) (by decide)) (bd.mo (bd_lit (n := 2) (by decide)) (by decide) (by decide)) ) ?_
      rintro _ _ _ ⟨rfl, rfl, rfl⟩
      refine c_i (p_X11_sayOf hR (bd.mo (by with_reducible assumption) (by decide) (by decide)) (bd.mo (bd_lit (n := 3) (by decide)) (by decide) (by decide)) ) ?_
      rintro _ _ _ ⟨rfl, rfl, rfl⟩
      unfold j_X11_lets_58
      intro h_58 e_h_58
      have hJ := hJ.hu e_h_58 (by unfold SLt; omega)
      have hR_h_58 := hR.kj hJ (fun k => by unfold SLt; omega)
      refine ⟨fun c => ?_, fun c => ?_⟩
      · skip
        refine c_i (p_X11_sayOf hR_h_58 (bd.mo (by with_reducible assumption) (by decide) (by decide)) (bd.mo (bd_lit (n := 2) (by decide)) (by decide) (by decide)) ) ?_
        rintro _ _ _ ⟨rfl, rfl, rfl⟩
        refine c_i (p_X11_sayOf hR_h_58 (bd.mo (by with_reducible assumption) (by decide) (by decide)) (bd.mo (bd_lit (n := 3) (by decide)) (by decide) (by decide)) ) ?_
        rintro _ _ _ ⟨rfl, rfl, rfl⟩
        unfold j_X11_lets_87
        intro h_87 e_h_87
        have hJ := hJ.hu e_h_87 (by unfold SLt; omega)
        have hR_h_87 := hR.kj hJ (fun k => by unfold SLt; omega)
        exact hJ
      · skip
        unfold j_X11_lets_87
        intro h_87 e_h_87
        have hJ := hJ.hu e_h_87 (by unfold SLt; omega)
        have hR_h_87 := hR.kj hJ (fun k => by unfold SLt; omega)
        exact hJ
    · skip
      unfold j_X11_lets_58
      intro h_58 e_h_58
      have hJ := hJ.hu e_h_58 (by unfold SLt; omega)
      have hR_h_58 := hR.kj hJ (fun k => by unfold SLt; omega)
      refine ⟨fun c => ?_, fun c => ?_⟩
      · skip
        refine c_i (p_X11_sayOf hR_h_58 (bd.mo (by with_reducible assumption) (by decide) (by decide)) (bd.mo (bd_lit (n := 2) (by decide)) (by decide) (by decide)) ) ?_
        rintro _ _ _ ⟨rfl, rfl, rfl⟩
        refine c_i (p_X11_sayOf hR_h_58 (bd.mo (by with_reducible assumption) (by decide) (by decide)) (bd.mo (bd_lit (n := 3) (by decide)) (by decide) (by decide)) ) ?_
        rintro _ _ _ ⟨rfl, rfl, rfl⟩
        unfold j_X11_lets_87
        intro h_87 e_h_87
        have hJ := hJ.hu e_h_87 (by unfold SLt; omega)
        have hR_h_87 := hR.kj hJ (fun k => by unfold SLt; omega)
        exact hJ
      · skip
        unfold j_X11_lets_87
        intro h_87 e_h_87
        have hJ := hJ.hu e_h_87 (by unfold SLt; omega)
        have hR_h_87 := hR.kj hJ (fun k => by unfold SLt; omega)
        exact hJ
  · skip
    refine c_i (p_X11_sayOf hR (bd.mo (by with_reducible assumption) (by decide) (by decide)) (bd.mo (bd_lit (n := 0) (by decide)) (by decide) (by decide)) ) ?_
    rintro _ _ _ ⟨rfl, rfl, rfl⟩
    refine c_i (p_X11_sayOf hR (bd.mo (by with_reducible assumption) (by decide) (by decide)) (bd.mo (bd_lit (n := 4) (by decide)) (by decide) (by decide)) ) ?_
    rintro _ _ _ ⟨rfl, rfl, rfl⟩
    refine c_i (p_X11_wornOf hR (bd.mo (hR.sp (bd.mo (by with_reducible assumption) (by decide) (by decide : _ ≤ (59 : Int)))) (by decide) (by decide)) ) ?_
    rintro r_24 h_24 g_24 hJ2
    have hJ := hJ.tr (hJ2.mo (fun o k hq => by unfold SRd at hq; unfold SLt; omega))
    have hR_h_24 := hR.kj hJ (fun k => by unfold SLt; omega)
    unfold j_X11_lets_31
    refine ⟨fun c => ?_, fun c => ?_⟩
    · skip
      refine c_i (p_X11_sayOf hR_h_24 (bd.mo (by with_reducible assumption) (by decide) (by decide)) (bd.mo (bd_lit (n := 2) (by decide)) (by decide) (by decide)) ) ?_
      rintro _ _ _ ⟨rfl, rfl, rfl⟩
      refine c_i (p_X11_sayOf hR_h_24 (bd.mo (by with_reducible assumption) (by decide) (by decide)) (bd.mo (bd_lit (n := 3) (by decide)) (by decide) (by decide)) ) ?_
      rintro _ _ _ ⟨rfl, rfl, rfl⟩
      unfold j_X11_lets_58
      intro h_58 e_h_58
      have hJ := hJ.hu e_h_58 (by unfold SLt; omega)
      have hR_h_58 := hR.kj hJ (fun k => by unfold SLt; omega)
      refine ⟨fun c => ?_, fun c => ?_⟩
      · skip
        refine c_i (p_X11_sayOf hR_h_58 (bd.mo (by with_reducible assumption) (by decide) (by decide)) (bd.mo (bd_lit (n := 2) (by decide)) (by decide) (by decide)) ) ?_
        rintro _ _ _ ⟨rfl, rfl, rfl⟩
        refine c_i (p_X11_sayOf hR_h_58 (bd.mo (by with_reducible assumption) (by decide) (by decide)) (bd.mo (bd_lit (n := 3) (by decide)) (by decide) (by decide)) ) ?_
        rintro _ _ _ ⟨rfl, rfl, rfl⟩
        unfold j_X11_lets_87
        intro h_87 e_h_87
        have hJ := hJ.hu e_h_87 (by unfold SLt; omega)
        have hR_h_87 := hR.kj hJ (fun k => by unfold SLt; omega)
        exact hJ
      · skip
        unfold j_X11_lets_87
        intro h_87 e_h_87
        have hJ := hJ.hu e_h_87 (by unfold SLt; omega)
        have hR_h_87 := hR.kj hJ (fun k => by unfold SLt; omega)
        exact hJ
    · skip
      unfold j_X11_lets_58
      intro h_58 e_h_58
      have hJ := hJ.hu e_h_58 (by unfold SLt; omega)
      have hR_h_58 := hR.kj hJ (fun k => by unfold SLt; omega)
      refine ⟨fun c => ?_, fun c => ?_⟩
      · skip
        refine c_i (p_X11_sayOf hR_h_58 (bd.mo (by with_reducible assumption) (by decide) (by decide)) (bd.mo (bd_lit (n := 2) (by decide)) (by decide) (by decide)) ) ?_
        rintro _ _ _ ⟨rfl, rfl, rfl⟩
        refine c_i (p_X11_sayOf hR_h_58 (bd.mo (by with_reducible assumption) (by decide) (by decide)) (bd.mo (bd_lit (n := 3) (by decide)) (by decide) (by decide)) ) ?_
        rintro _ _ _ ⟨rfl, rfl, rfl⟩
        unfold j_X11_lets_87
        intro h_87 e_h_87
        have hJ := hJ.hu e_h_87 (by unfold SLt; omega)
        have hR_h_87 := hR.kj hJ (fun k => by unfold SLt; omega)
        exact hJ
      · skip
        unfold j_X11_lets_87
        intro h_87 e_h_87
        have hJ := hJ.hu e_h_87 (by unfold SLt; omega)
        have hR_h_87 := hR.kj hJ (fun k => by unfold SLt; omega)
        exact hJ
theorem p_X11_isOf {h : HI} {g : HL} (hR : RI (h 136)) {x1 : Int32} {x2 : Int32} (b_x1 : bd (0) (59) x1)  : w_X11_isOf x1 x2 h g (fun r h' g' => h = h' ∧ g = g') := by
  unfold w_X11_isOf
  refine c_i (p_X11_sayOf hR (bd.mo (by with_reducible assumption) (by decide) (by decide)) (bd.mo (bd_lit (n := 0) (by decide)) (by decide) (by decide)) ) ?_
  rintro _ _ _ ⟨rfl, rfl, rfl⟩
  refine ⟨fun c => ?_, fun c => ?_⟩
  · skip
    exact ⟨rfl, rfl⟩
  · skip
    refine c_i (p_X11_sayOf hR (bd.mo (by with_reducible assumption) (by decide) (by decide)) (bd.mo (bd_lit (n := 5) (by decide)) (by decide) (by decide)) ) ?_
    rintro _ _ _ ⟨rfl, rfl, rfl⟩
    refine ⟨fun c => ?_, fun c => ?_⟩
    · skip
      exact ⟨rfl, rfl⟩
    · skip
      exact ⟨rfl, rfl⟩
theorem p_X11_numberFrom {h : HI} {g : HL} (hR : RI (h 136)) {x1 : Int32}  (T12 : bd 1 100000 (h 135 12)) : w_X11_numberFrom x1 h g (fun r h' g' => h = h' ∧ g = g') := by
  unfold w_X11_numberFrom
  refine ⟨fun c => ?_, fun c => ?_⟩
  · skip
    refine and_have (by exact bd_ne T12) (fun hv => ?_)
    exact ⟨rfl, rfl⟩
  · skip
    exact ⟨rfl, rfl⟩
theorem p_X11_findFirst {h : HI} {g : HL} (hR : RI (h 136)) {x1 : Int32} (b_x1 : bd (0) (23) x1)  : w_X11_findFirst x1 h g (fun h' g' => KJ (SFf) h h') := by
  unfold w_X11_findFirst
  have hJ : KJ (SFf) h h := KJ.rf
  refine c_v (p_X11_findFamily hR (bd.mo (by with_reducible assumption) (by decide) (by decide)) ) ?_
  rintro h_2 g_2 ⟨hJ2, T12⟩
  have hJ := hJ.tr (hJ2.mo (fun o k hq => by unfold SFm at hq; unfold SFf; omega))
  have hR_h_2 := hR.kj hJ (fun k => by unfold SFf; omega)
  rintro _ rfl
  refine lpE_intro (fun ⟨x1_q, x2_q, x3_q, x4_q, h_q, g_q⟩ => KJ (SFf) h h_q ∧ bd 1 100000 (h_q 135 12) ∧ x1 = x1_q ∧ 0 ≤ x4_q.toInt ∧ True) (fun ⟨x1_q, x2_q, x3_q, x4_q, h_q, g_q⟩ => ((60 : Int) - x4_q.toInt).toNat) ?_ _ ⟨hJ, T12, rfl, ge0, trivial⟩
  rintro ⟨x1_1, x2_1, x3_1, x4_1, h_1, g_1⟩ K1 ⟨hJ, T12, rfl, i1_0, -⟩ hK1
  unfold F_X11_findFirst_17; dsimp only; unfold b_X11_findFirst_17
  have hR_h_1 := hR.kj hJ (fun k => by unfold SFf; omega)
  refine and_have (by exact vp_in_iff.mpr (by decide)) (fun hv => ?_)
  refine ⟨fun c => ?_, fun c => ?_⟩
  · skip
    intro h_119 e_h_119
    have T12 : bd 1 100000 (h_119 135 12) := by first | (rw [e_h_119, hu_ne (by first | decide | omega)]; exact T12) | (rw [e_h_119, hu_eq, pk_un (by decide)]; exact T12) | (rw [e_h_119, hua_ne (by decide)]; exact T12)
    have hJ := hJ.hu e_h_119 (by unfold SFf; omega)
    have hR_h_119 := hR.kj hJ (fun k => by unfold SFf; omega)
    refine ⟨fun c => ?_, fun c => ?_⟩
    · skip
      unfold j_X11_findFirst_137
      intro h_137 e_h_137
      have T12 : bd 1 100000 (h_137 135 12) := by first | (rw [e_h_137, hu_ne (by first | decide | omega)]; exact T12) | (rw [e_h_137, hu_eq, pk_un (by decide)]; exact T12) | (rw [e_h_137, hua_ne (by decide)]; exact T12)
      have hJ := hJ.hu e_h_137 (by unfold SFf; omega)
      have hR_h_137 := hR.kj hJ (fun k => by unfold SFf; omega)
      exact hJ
    · skip
      unfold j_X11_findFirst_137
      intro h_137 e_h_137
      have T12 : bd 1 100000 (h_137 135 12) := by first | (rw [e_h_137, hu_ne (by first | decide | omega)]; exact T12) | (rw [e_h_137, hu_eq, pk_un (by decide)]; exact T12) | (rw [e_h_137, hua_ne (by decide)]; exact T12)
      have hJ := hJ.hu e_h_137 (by unfold SFf; omega)
      have hR_h_137 := hR.kj hJ (fun k => by unfold SFf; omega)
      exact hJ
  · skip
    have hb := bd_up (x := x4_1) (by with_reducible assumption) c hR_h_1.c1
    refine c_z (p_X11_isOf hR_h_1 (bd.mo (by with_reducible assumption) (by decide) (by decide)) ) ?_
    rintro r_32 _ _ ⟨rfl, rfl⟩
    refine ⟨fun c => ?_, fun c => ?_⟩
    · skip
      unfold j_X11_findFirst_111
      rintro _ rfl
      exact hK1 _ ⟨hJ, T12, rfl, (inc_b (by with_reducible assumption) (by decide) (by decide)), trivial⟩ (mu_lt (by with_reducible assumption) (by decide))
    · skip
      refine c_v (p_X11_lets hR_h_1 (bd.mo (by with_reducible assumption) (by decide) (by decide)) ) ?_
      rintro h_41 g_41 hJ2
      have hJ := hJ.tr (hJ2.mo (fun o k hq => by unfold SLt at hq; unfold SFf; omega))
      have hR_h_41 := hR.kj hJ (fun k => by unfold SFf; omega)
      have T12 : bd 1 100000 (h_41 135 12) := by first | (rw [hJ2 135 12 (by unfold SLt; omega)]; exact T12) | exact (hJ2.at 12 (by unfold SLt; omega)).trans T12 | exact hp.trans T12
      refine c_i (p_X11_numberFrom hR_h_41 T12) ?_
      rintro r_49 _ _ ⟨rfl, rfl⟩
      refine ⟨fun c => ?_, fun c => ?_⟩
      · skip
        refine and_have (by exact bd_ne T12) (fun hv => ?_)
        unfold j_X11_findFirst_83
        refine ⟨fun c => ?_, fun c => ?_⟩
        · skip
          unfold j_X11_findFirst_97
          refine ⟨fun c => ?_, fun c => ?_⟩
          · skip
            unfold j_X11_findFirst_110
            unfold j_X11_findFirst_111
            rintro _ rfl
            exact hK1 _ ⟨hJ, T12, rfl, (inc_b (by with_reducible assumption) (by decide) (by decide)), trivial⟩ (mu_lt (by with_reducible assumption) (by decide))
          · skip
            unfold j_X11_findFirst_110
            unfold j_X11_findFirst_111
            rintro _ rfl
            exact hK1 _ ⟨hJ, T12, rfl, (inc_b (by with_reducible assumption) (by decide) (by decide)), trivial⟩ (mu_lt (by with_reducible assumption) (by decide))
        · skip
          unfold j_X11_findFirst_97
          refine ⟨fun c => ?_, fun c => ?_⟩
          · skip
            unfold j_X11_findFirst_110
            unfold j_X11_findFirst_111
            rintro _ rfl
            exact hK1 _ ⟨hJ, T12, rfl, (inc_b (by with_reducible assumption) (by decide) (by decide)), trivial⟩ (mu_lt (by with_reducible assumption) (by decide))
          · skip
            unfold j_X11_findFirst_110
            unfold j_X11_findFirst_111
            rintro _ rfl
            exact hK1 _ ⟨hJ, T12, rfl, (inc_b (by with_reducible assumption) (by decide) (by decide)), trivial⟩ (mu_lt (by with_reducible assumption) (by decide))
      · skip
        unfold j_X11_findFirst_83
        refine ⟨fun c => ?_, fun c => ?_⟩
        · skip
          unfold j_X11_findFirst_97
          refine ⟨fun c => ?_, fun c => ?_⟩
          · skip
            unfold j_X11_findFirst_110
            unfold j_X11_findFirst_111
            rintro _ rfl
            exact hK1 _ ⟨hJ, T12, rfl, (inc_b (by with_reducible assumption) (by decide) (by decide)), trivial⟩ (mu_lt (by with_reducible assumption) (by decide))
          · skip
            unfold j_X11_findFirst_110
            unfold j_X11_findFirst_111
            rintro _ rfl
            exact hK1 _ ⟨hJ, T12, rfl, (inc_b (by with_reducible assumption) (by decide) (by decide)), trivial⟩ (mu_lt (by with_reducible assumption) (by decide))
        · skip
          unfold j_X11_findFirst_97
          refine ⟨fun c => ?_, fun c => ?_⟩
          · skip
            unfold j_X11_findFirst_110
            unfold j_X11_findFirst_111
            rintro _ rfl
            exact hK1 _ ⟨hJ, T12, rfl, (inc_b (by with_reducible assumption) (by decide) (by decide)), trivial⟩ (mu_lt (by with_reducible assumption) (by decide))
          · skip
            unfold j_X11_findFirst_110
            unfold j_X11_findFirst_111
            rintro _ rfl
            exact hK1 _ ⟨hJ, T12, rfl, (inc_b (by with_reducible assumption) (by decide) (by decide)), trivial⟩ (mu_lt (by with_reducible assumption) (by decide))
theorem p_X11_firstOf {h : HI} {g : HL} (hR : RI (h 136)) {x1 : Int32} {x2 : Int32} (b_x1 : bd (0) (23) x1)  : w_X11_firstOf x1 x2 h g (fun r h' g' => KJ (SFf) h h') := by
  unfold w_X11_firstOf
  have hJ : KJ (SFf) h h := KJ.rf
  refine c_v (p_X11_findFirst hR (bd.mo (by with_reducible assumption) (by decide) (by decide)) ) ?_
  rintro h_2 g_2 hJ2
  have hJ := hJ.tr (hJ2)
  have hR_h_2 := hR.kj hJ (fun k => by unfold SFf; omega)
  refine ⟨fun c => ?_, fun c => ?_⟩
  · skip
    refine ⟨fun c => ?_, fun c => ?_⟩
    · skip
      refine ⟨fun c => ?_, fun c => ?_⟩
      · skip
        unfold j_X11_firstOf_56
        exact hJ
      · skip
        unfold j_X11_firstOf_56
        exact hJ
    · skip
      exact hJ
  · skip
    exact hJ
theorem p_X11_first {h : HI} {g : HL} (hR : RI (h 136)) {x1 : Int32} {x2 : Int32}   : w_X11_first x1 x2 h g (fun r h' g' => KJ (SFf) h h') := by
  unfold w_X11_first
  have hJ : KJ (SFf) h h := KJ.rf
  refine c_is (vp_in_iff.mpr (by decide)) hR.c0 (by decide) (fun q q1 => ?_) (fun q => ?_)
  · skip
    refine ⟨fun c => ?_, fun c => ?_⟩
    · exact absI c
    · skip
      refine c_in3 (fun q => ?_) (fun q => ?_)
      · skip
        refine ⟨fun c => ?_, fun c => ?_⟩
        · exact absI c
        · skip
          refine c_i (p_X11_firstOf hR (bd.mo (by with_reducible assumption) (by decide) (by decide)) ) ?_
          rintro r_24 h_24 g_24 hJ2
          have hJ := hJ.tr (hJ2)
          have hR_h_24 := hR.kj hJ (fun k => by unfold SFf; omega)
          exact hJ
      · skip
        refine ⟨fun c => ?_, fun c => ?_⟩
        · skip
          exact hJ
        · exact absN c
  · skip
    refine ⟨fun c => ?_, fun c => ?_⟩
    · skip
      exact hJ
    · exact absN c
theorem p_X11_quarrels {h : HI} {g : HL} (hR : RI (h 136)) {x1 : Int32} {x2 : Int32} {x3 : Int32} (b_x1 : bd (0) (59) x1)  : w_X11_quarrels x1 x2 x3 h g (fun r h' g' => KJ (SLt) h h') := by
  unfold w_X11_quarrels
  have hJ : KJ (SLt) h h := KJ.rf
  refine c_z (p_X11_isOf hR (bd.mo (by with_reducible assumption) (by decide) (by decide)) ) ?_
  rintro r_3 _ _ ⟨rfl, rfl⟩
  refine ⟨fun c => ?_, fun c => ?_⟩
  · skip
    refine c_v (p_X11_lets hR (bd.mo (by with_reducible assumption) (by decide) (by decide)) ) ?_
    rintro h_13 g_13 hJ2
    have hJ := hJ.tr (hJ2)
    have hR_h_13 := hR.kj hJ (fun k => by unfold SLt; omega)
    refine c_in3 (fun q => ?_) (fun q => ?_)
    · skip
      refine ⟨fun c => ?_, fun c => ?_⟩
      · skip
        exact hJ
      · exact absI c
    · skip
      refine ⟨fun c => ?_, fun c => ?_⟩
      · exact absN c
      · skip
        exact hJ
  · skip
    exact hJ
theorem p_X11_tries {h : HI} {g : HL} (hR : RI (h 136)) {x1 : Int32} {x2 : Int32}   : w_X11_tries x1 x2 h g (fun h' g' => KJ (STr) h h') := by
  unfold w_X11_tries
  have hJ : KJ (STr) h h := KJ.rf
  refine c_in3 (fun q => ?_) (fun q => ?_)
  · skip
    refine ⟨fun c => ?_, fun c => ?_⟩
    · skip
      rintro _ rfl
      refine lpE_intro (fun ⟨x1_q, x3_q, x4_q, x5_q, h_q, g_q⟩ => KJ (STr) h h_q ∧ x1 = x1_q ∧ (((h 135 11) + ((h 135 12) * x2))) = x3_q ∧ 0 ≤ x5_q.toInt ∧ True) (fun ⟨x1_q, x3_q, x4_q, x5_q, h_q, g_q⟩ => ((60 : Int) - x5_q.toInt).toNat) ?_ _ ⟨hJ, rfl, rfl, ge0, trivial⟩
      rintro ⟨x1_1, x3_1, x4_1, x5_1, h_1, g_1⟩ K1 ⟨hJ, rfl, rfl, i1_0, -⟩ hK1
      unfold F_X11_tries_35; dsimp only; unfold b_X11_tries_35
      have hR_h_1 := hR.kj hJ (fun k => by unfold STr; omega)
      refine and_have (by exact vp_in_iff.mpr (by decide)) (fun hv => ?_)
      refine ⟨fun c => ?_, fun c => ?_⟩
      · skip
        refine ⟨fun c => ?_, fun c => ?_⟩
        · skip
          unfold j_X11_tries_107
          intro h_110 e_h_110
          have hJ := hJ.hu e_h_110 (by unfold STr; omega)
          have hR_h_110 := hR.kj hJ (fun k => by unfold STr; omega)
          intro h_115 e_h_115
          have hJ := hJ.hu e_h_115 (by unfold STr; omega)
          have hR_h_115 := hR.kj hJ (fun k => by unfold STr; omega)
          exact hJ
        · skip
          refine ⟨fun c => ?_, fun c => ?_⟩
          · skip
            unfold j_X11_tries_107
            intro h_110 e_h_110
            have hJ := hJ.hu e_h_110 (by unfold STr; omega)
            have hR_h_110 := hR.kj hJ (fun k => by unfold STr; omega)
            intro h_115 e_h_115
            have hJ := hJ.hu e_h_115 (by unfold STr; omega)
            have hR_h_115 := hR.kj hJ (fun k => by unfold STr; omega)
            exact hJ
          · skip
            refine ⟨fun c => ?_, fun c => ?_⟩
            · skip
              exact hJ
            · skip
              refine ⟨fun c => ?_, fun c => ?_⟩
              · skip
                exact hJ
              · skip
                unfold j_X11_tries_107
                intro h_110 e_h_110
                have hJ := hJ.hu e_h_110 (by unfold STr; omega)
                have hR_h_110 := hR.kj hJ (fun k => by unfold STr; omega)
                intro h_115 e_h_115
                have hJ := hJ.hu e_h_115 (by unfold STr; omega)
                have hR_h_115 := hR.kj hJ (fun k => by unfold STr; omega)
                exact hJ
      · skip
        have hb := bd_up (x := x5_1) (by with_reducible assumption) c hR_h_1.c1
        refine c_z (p_X11_quarrels hR_h_1 (bd.mo (by with_reducible assumption) (by decide) (by decide)) ) ?_
        rintro r_53 h_53 g_53 hJ2
        have hJ := hJ.tr (hJ2.mo (fun o k hq => by unfold SLt at hq; unfold STr; omega))
        have hR_h_53 := hR.kj hJ (fun k => by unfold STr; omega)
        refine ⟨fun c => ?_, fun c => ?_⟩
        · skip
          unfold j_X11_tries_64
          rintro _ rfl
          rintro _ rfl
          exact hK1 _ ⟨hJ, rfl, rfl, (inc_b (by with_reducible assumption) (by decide) (by decide)), trivial⟩ (mu_lt (by with_reducible assumption) (by decide))
        · skip
          unfold j_X11_tries_64
          rintro _ rfl
          rintro _ rfl
          exact hK1 _ ⟨hJ, rfl, rfl, (inc_b (by with_reducible assumption) (by decide) (by decide)), trivial⟩ (mu_lt (by with_reducible assumption) (by decide))
    · exact absI c
  · skip
    refine ⟨fun c => ?_, fun c => ?_⟩
    · exact absN c
    · skip
      exact hJ
theorem p_X11_quarrel {h : HI} {g : HL} (hR : RI (h 136)) {x1 : Int32} {x2 : Int32}   : w_X11_quarrel x1 x2 h g (fun r h' g' => KJ (SQu) h h') := by
  unfold w_X11_quarrel
  have hJ : KJ (SQu) h h := KJ.rf
  refine c_is (vp_in_iff.mpr (by decide)) hR.c0 (by decide) (fun q q1 => ?_) (fun q => ?_)
  · skip
    refine ⟨fun c => ?_, fun c => ?_⟩
    · exact absI c
    · skip
      refine ⟨fun c => ?_, fun c => ?_⟩
      · skip
        unfold j_X11_quarrel_23
        refine c_v (p_X11_findFamily hR (bd.mo (by with_reducible assumption) (by decide) (by decide)) ) ?_
        rintro h_25 g_25 ⟨hJ2, T12⟩
        have hJ := hJ.tr (hJ2.mo (fun o k hq => by unfold SFm at hq; unfold SQu; omega))
        have hR_h_25 := hR.kj hJ (fun k => by unfold SQu; omega)
        intro h_30 e_h_30
        have T12 : bd 1 100000 (h_30 135 12) := by first | (rw [e_h_30, hu_ne (by first | decide | omega)]; exact T12) | (rw [e_h_30, hu_eq, pk_un (by decide)]; exact T12) | (rw [e_h_30, hua_ne (by decide)]; exact T12)
        have hJ := hJ.hu e_h_30 (by unfold SQu; omega)
        have hR_h_30 := hR.kj hJ (fun k => by unfold SQu; omega)
        refine c_v (p_X11_tries hR_h_30 ) ?_
        rintro h_36 g_36 hJ2
        have hJ := hJ.tr (hJ2.mo (fun o k hq => by unfold STr at hq; unfold SQu; omega))
        have hR_h_36 := hR.kj hJ (fun k => by unfold SQu; omega)
        have T12 : bd 1 100000 (h_36 135 12) := by first | (rw [hJ2 135 12 (by unfold STr; omega)]; exact T12) | exact (hJ2.at 12 (by unfold STr; omega)).trans T12 | exact hp.trans T12
        refine lpE_intro (fun ⟨x1_q, x2_q, x3_q, h_q, g_q⟩ => KJ (SQu) h h_q ∧ bd 1 100000 (h_q 135 12) ∧ x1 = x1_q ∧ x2 = x2_q ∧ 0 ≤ x3_q.toInt ∧ True) (fun ⟨x1_q, x2_q, x3_q, h_q, g_q⟩ => ((60 : Int) - x3_q.toInt).toNat) ?_ _ ⟨hJ, T12, rfl, rfl, ge0, trivial⟩
        rintro ⟨x1_1, x2_1, x3_1, h_1, g_1⟩ K1 ⟨hJ, T12, rfl, rfl, i1_0, -⟩ hK1
        unfold F_X11_quarrel_41; dsimp only; unfold b_X11_quarrel_41
        have hR_h_1 := hR.kj hJ (fun k => by unfold SQu; omega)
        refine and_have (by exact vp_in_iff.mpr (by decide)) (fun hv => ?_)
        refine ⟨fun c => ?_, fun c => ?_⟩
        · skip
          refine ⟨fun c => ?_, fun c => ?_⟩
          · skip
            refine lpE_intro (fun ⟨x1_q, x2_q, x3_q, x4_q, h_q, g_q⟩ => KJ (SQu) h h_q ∧ bd 1 100000 (h_q 135 12) ∧ x1 = x1_q ∧ x2 = x2_q ∧ 0 ≤ x4_q.toInt ∧ True) (fun ⟨x1_q, x2_q, x3_q, x4_q, h_q, g_q⟩ => ((60 : Int) - x4_q.toInt).toNat) ?_ _ ⟨hJ, T12, rfl, rfl, ge0, trivial⟩
            rintro ⟨x1_2, x2_2, x3_2, x4_2, h_2, g_2⟩ K2 ⟨hJ, T12, rfl, rfl, i2_0, -⟩ hK2
            unfold F_X11_quarrel_129; dsimp only; unfold b_X11_quarrel_129
            have hR_h_2 := hR.kj hJ (fun k => by unfold SQu; omega)
            refine and_have (by exact vp_in_iff.mpr (by decide)) (fun hv => ?_)
            refine ⟨fun c => ?_, fun c => ?_⟩
            · skip
              exact hJ
            · skip
              have hb := bd_up (x := x4_2) (by with_reducible assumption) c hR_h_2.c1
              refine c_z (p_X11_quarrels hR_h_2 (bd.mo (by with_reducible assumption) (by decide) (by decide)) ) ?_
              rintro r_148 h_148 g_148 hJ2
              have hJ := hJ.tr (hJ2.mo (fun o k hq => by unfold SLt at hq; unfold SQu; omega))
              have hR_h_148 := hR.kj hJ (fun k => by unfold SQu; omega)
              have T12 : bd 1 100000 (h_148 135 12) := by first | (rw [hJ2 135 12 (by unfold SLt; omega)]; exact T12) | exact (hJ2.at 12 (by unfold SLt; omega)).trans T12 | exact hp.trans T12
              refine ⟨fun c => ?_, fun c => ?_⟩
              · skip
                unfold j_X11_quarrel_165
                rintro _ rfl
                exact hK2 _ ⟨hJ, T12, rfl, rfl, (inc_b (by with_reducible assumption) (by decide) (by decide)), trivial⟩ (mu_lt (by with_reducible assumption) (by decide))
              · skip
                refine ⟨fun c => ?_, fun c => ?_⟩
                · skip
                  rintro _ rfl
                  unfold j_X11_quarrel_165
                  rintro _ rfl
                  exact hK2 _ ⟨hJ, T12, rfl, rfl, (inc_b (by with_reducible assumption) (by decide) (by decide)), trivial⟩ (mu_lt (by with_reducible assumption) (by decide))
                · skip
                  exact hJ
          · skip
            refine ⟨fun c => ?_, fun c => ?_⟩
            · skip
              exact hJ
            · skip
              exact hJ
        · skip
          have hb := bd_up (x := x3_1) (by with_reducible assumption) c hR_h_1.c1
          refine c_z (p_X11_isOf hR_h_1 (bd.mo (by with_reducible assumption) (by decide) (by decide)) ) ?_
          rintro r_54 _ _ ⟨rfl, rfl⟩
          refine ⟨fun c => ?_, fun c => ?_⟩
          · skip
            unfold j_X11_quarrel_97
            rintro _ rfl
            exact hK1 _ ⟨hJ, T12, rfl, rfl, (inc_b (by with_reducible assumption) (by decide) (by decide)), trivial⟩ (mu_lt (by with_reducible assumption) (by decide))
          · skip
            refine c_v (p_X11_lets hR_h_1 (bd.mo (by with_reducible assumption) (by decide) (by decide)) ) ?_
            rintro h_62 g_62 hJ2
            have hJ := hJ.tr (hJ2.mo (fun o k hq => by unfold SLt at hq; unfold SQu; omega))
            have hR_h_62 := hR.kj hJ (fun k => by unfold SQu; omega)
            have T12 : bd 1 100000 (h_62 135 12) := by first | (rw [hJ2 135 12 (by unfold SLt; omega)]; exact T12) | exact (hJ2.at 12 (by unfold SLt; omega)).trans T12 | exact hp.trans T12
            rintro _ rfl
            refine c_i (p_X11_numberFrom hR_h_62 T12) ?_
            rintro r_78 _ _ ⟨rfl, rfl⟩
            refine c_v (p_X11_tries hR_h_62 ) ?_
            rintro h_81 g_81 hJ2
            have hJ := hJ.tr (hJ2.mo (fun o k hq => by unfold STr at hq; unfold SQu; omega))
            have hR_h_81 := hR.kj hJ (fun k => by unfold SQu; omega)
            have T12 : bd 1 100000 (h_81 135 12) := by first | (rw [hJ2 135 12 (by unfold STr; omega)]; exact T12) | exact (hJ2.at 12 (by unfold STr; omega)).trans T12 | exact hp.trans T12
            refine c_i (p_X11_numberFrom hR_h_81 T12) ?_
            rintro r_91 _ _ ⟨rfl, rfl⟩
            refine c_v (p_X11_tries hR_h_81 ) ?_
            rintro h_94 g_94 hJ2
            have hJ := hJ.tr (hJ2.mo (fun o k hq => by unfold STr at hq; unfold SQu; omega))
            have hR_h_94 := hR.kj hJ (fun k => by unfold SQu; omega)
            have T12 : bd 1 100000 (h_94 135 12) := by first | (rw [hJ2 135 12 (by unfold STr; omega)]; exact T12) | exact (hJ2.at 12 (by unfold STr; omega)).trans T12 | exact hp.trans T12
            unfold j_X11_quarrel_97
            rintro _ rfl
            exact hK1 _ ⟨hJ, T12, rfl, rfl, (inc_b (by with_reducible assumption) (by decide) (by decide)), trivial⟩ (mu_lt (by with_reducible assumption) (by decide))
      · skip
        refine ⟨fun c => ?_, fun c => ?_⟩
        · skip
          unfold j_X11_quarrel_23
          refine c_v (p_X11_findFamily hR (bd.mo (by with_reducible assumption) (by decide) (by decide)) ) ?_
          rintro h_25 g_25 ⟨hJ2, T12⟩
          have hJ := hJ.tr (hJ2.mo (fun o k hq => by unfold SFm at hq; unfold SQu; omega))
          have hR_h_25 := hR.kj hJ (fun k => by unfold SQu; omega)
          intro h_30 e_h_30
          have T12 : bd 1 100000 (h_30 135 12) := by first | (rw [e_h_30, hu_ne (by first | decide | omega)]; exact T12) | (rw [e_h_30, hu_eq, pk_un (by decide)]; exact T12) | (rw [e_h_30, hua_ne (by decide)]; exact T12)
          have hJ := hJ.hu e_h_30 (by unfold SQu; omega)
          have hR_h_30 := hR.kj hJ (fun k => by unfold SQu; omega)
          refine c_v (p_X11_tries hR_h_30 ) ?_
          rintro h_36 g_36 hJ2
          have hJ := hJ.tr (hJ2.mo (fun o k hq => by unfold STr at hq; unfold SQu; omega))
          have hR_h_36 := hR.kj hJ (fun k => by unfold SQu; omega)
          have T12 : bd 1 100000 (h_36 135 12) := by first | (rw [hJ2 135 12 (by unfold STr; omega)]; exact T12) | exact (hJ2.at 12 (by unfold STr; omega)).trans T12 | exact hp.trans T12
          refine lpE_intro (fun ⟨x1_q, x2_q, x3_q, h_q, g_q⟩ => KJ (SQu) h h_q ∧ bd 1 100000 (h_q 135 12) ∧ x1 = x1_q ∧ x2 = x2_q ∧ 0 ≤ x3_q.toInt ∧ True) (fun ⟨x1_q, x2_q, x3_q, h_q, g_q⟩ => ((60 : Int) - x3_q.toInt).toNat) ?_ _ ⟨hJ, T12, rfl, rfl, ge0, trivial⟩
          rintro ⟨x1_3, x2_3, x3_3, h_3, g_3⟩ K3 ⟨hJ, T12, rfl, rfl, i3_0, -⟩ hK3
          unfold F_X11_quarrel_41; dsimp only; unfold b_X11_quarrel_41
          have hR_h_3 := hR.kj hJ (fun k => by unfold SQu; omega)
          refine and_have (by exact vp_in_iff.mpr (by decide)) (fun hv => ?_)
          refine ⟨fun c => ?_, fun c => ?_⟩
          · skip
            refine ⟨fun c => ?_, fun c => ?_⟩
            · skip
              refine lpE_intro (fun ⟨x1_q, x2_q, x3_q, x4_q, h_q, g_q⟩ => KJ (SQu) h h_q ∧ bd 1 100000 (h_q 135 12) ∧ x1 = x1_q ∧ x2 = x2_q ∧ 0 ≤ x4_q.toInt ∧ True) (fun ⟨x1_q, x2_q, x3_q, x4_q, h_q, g_q⟩ => ((60 : Int) - x4_q.toInt).toNat) ?_ _ ⟨hJ, T12, rfl, rfl, ge0, trivial⟩
              rintro ⟨x1_4, x2_4, x3_4, x4_4, h_4, g_4⟩ K4 ⟨hJ, T12, rfl, rfl, i4_0, -⟩ hK4
              unfold F_X11_quarrel_129; dsimp only; unfold b_X11_quarrel_129
              have hR_h_4 := hR.kj hJ (fun k => by unfold SQu; omega)
              refine and_have (by exact vp_in_iff.mpr (by decide)) (fun hv => ?_)
              refine ⟨fun c => ?_, fun c => ?_⟩
              · skip
                exact hJ
              · skip
                have hb := bd_up (x := x4_4) (by with_reducible assumption) c hR_h_4.c1
                refine c_z (p_X11_quarrels hR_h_4 (bd.mo (by with_reducible assumption) (by decide) (by decide)) ) ?_
                rintro r_148 h_148 g_148 hJ2
                have hJ := hJ.tr (hJ2.mo (fun o k hq => by unfold SLt at hq; unfold SQu; omega))
                have hR_h_148 := hR.kj hJ (fun k => by unfold SQu; omega)
                have T12 : bd 1 100000 (h_148 135 12) := by first | (rw [hJ2 135 12 (by unfold SLt; omega)]; exact T12) | exact (hJ2.at 12 (by unfold SLt; omega)).trans T12 | exact hp.trans T12
                refine ⟨fun c => ?_, fun c => ?_⟩
                · skip
                  unfold j_X11_quarrel_165
                  rintro _ rfl
                  exact hK4 _ ⟨hJ, T12, rfl, rfl, (inc_b (by with_reducible assumption) (by decide) (by decide)), trivial⟩ (mu_lt (by with_reducible assumption) (by decide))
                · skip
                  refine ⟨fun c => ?_, fun c => ?_⟩
                  · skip
                    rintro _ rfl
                    unfold j_X11_quarrel_165
                    rintro _ rfl
                    exact hK4 _ ⟨hJ, T12, rfl, rfl, (inc_b (by with_reducible assumption) (by decide) (by decide)), trivial⟩ (mu_lt (by with_reducible assumption) (by decide))
                  · skip
                    exact hJ
            · skip
              refine ⟨fun c => ?_, fun c => ?_⟩
              · skip
                exact hJ
              · skip
                exact hJ
          · skip
            have hb := bd_up (x := x3_3) (by with_reducible assumption) c hR_h_3.c1
            refine c_z (p_X11_isOf hR_h_3 (bd.mo (by with_reducible assumption) (by decide) (by decide)) ) ?_
            rintro r_54 _ _ ⟨rfl, rfl⟩
            refine ⟨fun c => ?_, fun c => ?_⟩
            · skip
              unfold j_X11_quarrel_97
              rintro _ rfl
              exact hK3 _ ⟨hJ, T12, rfl, rfl, (inc_b (by with_reducible assumption) (by decide) (by decide)), trivial⟩ (mu_lt (by with_reducible assumption) (by decide))
            · skip
              refine c_v (p_X11_lets hR_h_3 (bd.mo (by with_reducible assumption) (by decide) (by decide)) ) ?_
              rintro h_62 g_62 hJ2
              have hJ := hJ.tr (hJ2.mo (fun o k hq => by unfold SLt at hq; unfold SQu; omega))
              have hR_h_62 := hR.kj hJ (fun k => by unfold SQu; omega)
              have T12 : bd 1 100000 (h_62 135 12) := by first | (rw [hJ2 135 12 (by unfold SLt; omega)]; exact T12) | exact (hJ2.at 12 (by unfold SLt; omega)).trans T12 | exact hp.trans T12
              rintro _ rfl
              refine c_i (p_X11_numberFrom hR_h_62 T12) ?_
              rintro r_78 _ _ ⟨rfl, rfl⟩
              refine c_v (p_X11_tries hR_h_62 ) ?_
              rintro h_81 g_81 hJ2
              have hJ := hJ.tr (hJ2.mo (fun o k hq => by unfold STr at hq; unfold SQu; omega))
              have hR_h_81 := hR.kj hJ (fun k => by unfold SQu; omega)
              have T12 : bd 1 100000 (h_81 135 12) := by first | (rw [hJ2 135 12 (by unfold STr; omega)]; exact T12) | exact (hJ2.at 12 (by unfold STr; omega)).trans T12 | exact hp.trans T12
              refine c_i (p_X11_numberFrom hR_h_81 T12) ?_
              rintro r_91 _ _ ⟨rfl, rfl⟩
              refine c_v (p_X11_tries hR_h_81 ) ?_
              rintro h_94 g_94 hJ2
              have hJ := hJ.tr (hJ2.mo (fun o k hq => by unfold STr at hq; unfold SQu; omega))
              have hR_h_94 := hR.kj hJ (fun k => by unfold SQu; omega)
              have T12 : bd 1 100000 (h_94 135 12) := by first | (rw [hJ2 135 12 (by unfold STr; omega)]; exact T12) | exact (hJ2.at 12 (by unfold STr; omega)).trans T12 | exact hp.trans T12
              unfold j_X11_quarrel_97
              rintro _ rfl
              exact hK3 _ ⟨hJ, T12, rfl, rfl, (inc_b (by with_reducible assumption) (by decide) (by decide)), trivial⟩ (mu_lt (by with_reducible assumption) (by decide))
        · skip
          exact hJ
  · skip
    refine ⟨fun c => ?_, fun c => ?_⟩
    · skip
      exact hJ
    · exact absN c
theorem p_X11_has {h : HI} {g : HL} (hR : RI (h 136)) {x1 : Int32} {x2 : Int32} (b_x1 : bd (0) (15) x1)  : w_X11_has x1 x2 h g (fun r h' g' => h = h' ∧ g = g') := by
  unfold w_X11_has
  refine lpE_intro (fun ⟨x1_q, x2_q, x3_q, h_q, g_q⟩ => x1 = x1_q ∧ x2 = x2_q ∧ h = h_q ∧ g = g_q ∧ 0 ≤ x3_q.toInt ∧ True) (fun ⟨x1_q, x2_q, x3_q, h_q, g_q⟩ => ((6 : Int) - x3_q.toInt).toNat) ?_ _ ⟨rfl, rfl, rfl, rfl, ge0, trivial⟩
  rintro ⟨x1_1, x2_1, x3_1, h_1, g_1⟩ K1 ⟨rfl, rfl, rfl, rfl, i1_0, -⟩ hK1
  unfold F_X11_has_2; dsimp only; unfold b_X11_has_2
  refine c_i (p_X11_chainOf hR (bd.mo (by with_reducible assumption) (by decide) (by decide)) (bd.mo (bd_lit (n := 2) (by decide)) (by decide) (by decide)) ) ?_
  rintro _ _ _ ⟨rfl, rfl, rfl⟩
  refine ⟨fun c => ?_, fun c => ?_⟩
  · skip
    exact ⟨rfl, rfl⟩
  · skip
    have hb := bd_up (x := x3_1) (by with_reducible assumption) c (hR.cm (bd.mo (by with_reducible assumption) (by decide) (by decide : _ ≤ (15 : Int))))
    refine c_i (p_X11_chainOf hR (bd.mo (by with_reducible assumption) (by decide) (by decide)) (bd.mo (bd_add (bd_lit (n := 3) (by decide)) (by with_reducible assumption) (by decide) (by decide)) (by decide) (by decide)) ) ?_
    rintro _ _ _ ⟨rfl, rfl, rfl⟩
    refine ⟨fun c => ?_, fun c => ?_⟩
    · skip
      rintro _ rfl
      exact hK1 _ ⟨rfl, rfl, rfl, rfl, (inc_b (by with_reducible assumption) (by decide) (by decide)), trivial⟩ (mu_lt (by with_reducible assumption) (by decide))
    · skip
      exact ⟨rfl, rfl⟩
theorem p_X11_sums {h : HI} {g : HL} (hR : RI (h 136)) {x1 : Int32} {x2 : Int32} {x3 : Int32} {x4 : Int32} (b_x1 : bd (0) (15) x1) (hpq : bd 0 23 x3 ∨ x4 = -2) : w_X11_sums x1 x2 x3 x4 h g (fun r h' g' => KJ (SSm) h h') := by
  unfold w_X11_sums
  have hJ : KJ (SSm) h h := KJ.rf
  intro h_2 e_h_2
  have hJ := hJ.hu e_h_2 (by unfold SSm; omega)
  have hR_h_2 := hR.kj hJ (fun k => by unfold SSm; omega)
  intro h_7 e_h_7
  have hJ := hJ.hu e_h_7 (by unfold SSm; omega)
  have hR_h_7 := hR.kj hJ (fun k => by unfold SSm; omega)
  refine lpE_intro (fun ⟨x1_q, x2_q, x3_q, x4_q, x5_q, h_q, g_q⟩ => KJ (SSm) h h_q ∧ x1 = x1_q ∧ x2 = x2_q ∧ x3 = x3_q ∧ x4 = x4_q ∧ 0 ≤ x5_q.toInt ∧ True) (fun ⟨x1_q, x2_q, x3_q, x4_q, x5_q, h_q, g_q⟩ => ((6 : Int) - x5_q.toInt).toNat) ?_ _ ⟨hJ, rfl, rfl, rfl, rfl, ge0, trivial⟩
  rintro ⟨x1_1, x2_1, x3_1, x4_1, x5_1, h_1, g_1⟩ K1 ⟨hJ, rfl, rfl, rfl, rfl, i1_0, -⟩ hK1
  unfold F_X11_sums_13; dsimp only; unfold b_X11_sums_13
  have hR_h_1 := hR.kj hJ (fun k => by unfold SSm; omega)
  refine c_i (p_X11_chainOf hR_h_1 (bd.mo (by with_reducible assumption) (by decide) (by decide)) (bd.mo (bd_lit (n := 2) (by decide)) (by decide) (by decide)) ) ?_
  rintro _ _ _ ⟨rfl, rfl, rfl⟩
  refine ⟨fun c => ?_, fun c => ?_⟩
  · skip
    exact hJ
  · skip
    have hb := bd_up (x := x5_1) (by with_reducible assumption) c (hR_h_1.cm (bd.mo (by with_reducible assumption) (by decide) (by decide : _ ≤ (15 : Int))))
    refine c_i (p_X11_chainOf hR_h_1 (bd.mo (by with_reducible assumption) (by decide) (by decide)) (bd.mo (bd_add (bd_lit (n := 3) (by decide)) (by with_reducible assumption) (by decide) (by decide)) (by decide) (by decide)) ) ?_
    rintro _ _ _ ⟨rfl, rfl, rfl⟩
    refine ⟨fun c => ?_, fun c => ?_⟩
    · skip
      refine c_i (p_X11_chainOf hR_h_1 (bd.mo (by with_reducible assumption) (by decide) (by decide)) (bd.mo (bd_add (bd_lit (n := 3) (by decide)) (by with_reducible assumption) (by decide) (by decide)) (by decide) (by decide)) ) ?_
      rintro _ _ _ ⟨rfl, rfl, rfl⟩
      unfold j_X11_sums_51
      refine c_i (p_X11_firstOf hR_h_1 (bd.mo (hR_h_1.cf (bd.mo (by with_reducible assumption) (by decide) (by decide : _ ≤ (15 : Int))) (bd.mo (by with_reducible assumption) (by decide) (by decide : _ ≤ (5 : Int)))) (by decide) (by decide)) ) ?_
      rintro r_57 h_57 g_57 hJ2
      have hJ := hJ.tr (hJ2.mo (fun o k hq => by unfold SFf at hq; unfold SSm; omega))
      have hR_h_57 := hR.kj hJ (fun k => by unfold SSm; omega)
      refine ⟨fun c => ?_, fun c => ?_⟩
      · skip
        refine c_i (p_X11_wornOf hR_h_57 (bd.mo (hR_h_1.cf (bd.mo (by with_reducible assumption) (by decide) (by decide : _ ≤ (15 : Int))) (bd.mo (by with_reducible assumption) (by decide) (by decide : _ ≤ (5 : Int)))) (by decide) (by decide)) ) ?_
        rintro r_74 h_74 g_74 hJ2
        have hJ := hJ.tr (hJ2.mo (fun o k hq => by unfold SRd at hq; unfold SSm; omega))
        have hR_h_74 := hR.kj hJ (fun k => by unfold SSm; omega)
        refine c_i (p_X11_firstOf hR_h_74 (bd.mo (hR_h_1.cf (bd.mo (by with_reducible assumption) (by decide) (by decide : _ ≤ (15 : Int))) (bd.mo (by with_reducible assumption) (by decide) (by decide : _ ≤ (5 : Int)))) (by decide) (by decide)) ) ?_
        rintro r_83 h_83 g_83 hJ2
        have hJ := hJ.tr (hJ2.mo (fun o k hq => by unfold SFf at hq; unfold SSm; omega))
        have hR_h_83 := hR.kj hJ (fun k => by unfold SSm; omega)
        rintro _ rfl
        rintro _ rfl
        refine c_i (p_X11_chainOf hR_h_83 (bd.mo (by with_reducible assumption) (by decide) (by decide)) (bd.mo (bd_lit (n := 9) (by decide)) (by decide) (by decide)) ) ?_
        rintro _ _ _ ⟨rfl, rfl, rfl⟩
        refine ⟨fun c => ?_, fun c => ?_⟩
        · skip
          unfold j_X11_sums_119
          refine ⟨fun c => ?_, fun c => ?_⟩
          · skip
            unfold j_X11_sums_139
            intro h_140 e_h_140
            have hJ := hJ.hu e_h_140 (by unfold SSm; omega)
            have hR_h_140 := hR.kj hJ (fun k => by unfold SSm; omega)
            refine ⟨fun c => ?_, fun c => ?_⟩
            · skip
              unfold j_X11_sums_161
              intro h_162 e_h_162
              have hJ := hJ.hu e_h_162 (by unfold SSm; omega)
              have hR_h_162 := hR.kj hJ (fun k => by unfold SSm; omega)
              rintro _ rfl
              exact hK1 _ ⟨hJ, rfl, rfl, rfl, rfl, (inc_b (by with_reducible assumption) (by decide) (by decide)), trivial⟩ (mu_lt (by with_reducible assumption) (by decide))
            · exact absN c
          · exact absN c
        · skip
          unfold j_X11_sums_119
          refine ⟨fun c => ?_, fun c => ?_⟩
          · exact absI c
          · skip
            unfold j_X11_sums_139
            intro h_140 e_h_140
            have hJ := hJ.hu e_h_140 (by unfold SSm; omega)
            have hR_h_140 := hR.kj hJ (fun k => by unfold SSm; omega)
            refine ⟨fun c => ?_, fun c => ?_⟩
            · exact absI c
            · skip
              unfold j_X11_sums_161
              intro h_162 e_h_162
              have hJ := hJ.hu e_h_162 (by unfold SSm; omega)
              have hR_h_162 := hR.kj hJ (fun k => by unfold SSm; omega)
              rintro _ rfl
              exact hK1 _ ⟨hJ, rfl, rfl, rfl, rfl, (inc_b (by with_reducible assumption) (by decide) (by decide)), trivial⟩ (mu_lt (by with_reducible assumption) (by decide))
      · skip
        exact hJ
    · skip
      have hx3 : bd 0 23 x3 := sm_p hpq c (hR_h_1.cf (bd.mo (by with_reducible assumption) (by decide) (by decide : _ ≤ (15 : Int))) (bd.mo (by with_reducible assumption) (by decide) (by decide : _ ≤ (5 : Int))))
      unfold j_X11_sums_51
      refine c_i (p_X11_firstOf hR_h_1 (bd.mo (by with_reducible assumption) (by decide) (by decide)) ) ?_
      rintro r_57 h_57 g_57 hJ2
      have hJ := hJ.tr (hJ2.mo (fun o k hq => by unfold SFf at hq; unfold SSm; omega))
      have hR_h_57 := hR.kj hJ (fun k => by unfold SSm; omega)
      refine ⟨fun c => ?_, fun c => ?_⟩
      · skip
        refine c_i (p_X11_wornOf hR_h_57 (bd.mo (by with_reducible assumption) (by decide) (by decide)) ) ?_
        rintro r_74 h_74 g_74 hJ2
        have hJ := hJ.tr (hJ2.mo (fun o k hq => by unfold SRd at hq; unfold SSm; omega))
        have hR_h_74 := hR.kj hJ (fun k => by unfold SSm; omega)
        refine c_i (p_X11_firstOf hR_h_74 (bd.mo (by with_reducible assumption) (by decide) (by decide)) ) ?_
        rintro r_83 h_83 g_83 hJ2
        have hJ := hJ.tr (hJ2.mo (fun o k hq => by unfold SFf at hq; unfold SSm; omega))
        have hR_h_83 := hR.kj hJ (fun k => by unfold SSm; omega)
        rintro _ rfl
        rintro _ rfl
        refine c_i (p_X11_chainOf hR_h_83 (bd.mo (by with_reducible assumption) (by decide) (by decide)) (bd.mo (bd_lit (n := 9) (by decide)) (by decide) (by decide)) ) ?_
        rintro _ _ _ ⟨rfl, rfl, rfl⟩
        refine ⟨fun c => ?_, fun c => ?_⟩
        · skip
          unfold j_X11_sums_119
          refine ⟨fun c => ?_, fun c => ?_⟩
          · skip
            unfold j_X11_sums_139
            intro h_140 e_h_140
            have hJ := hJ.hu e_h_140 (by unfold SSm; omega)
            have hR_h_140 := hR.kj hJ (fun k => by unfold SSm; omega)
            refine ⟨fun c => ?_, fun c => ?_⟩
            · skip
              unfold j_X11_sums_161
              intro h_162 e_h_162
              have hJ := hJ.hu e_h_162 (by unfold SSm; omega)
              have hR_h_162 := hR.kj hJ (fun k => by unfold SSm; omega)
              rintro _ rfl
              exact hK1 _ ⟨hJ, rfl, rfl, rfl, rfl, (inc_b (by with_reducible assumption) (by decide) (by decide)), trivial⟩ (mu_lt (by with_reducible assumption) (by decide))
            · exact absN c
          · exact absN c
        · skip
          unfold j_X11_sums_119
          refine ⟨fun c => ?_, fun c => ?_⟩
          · exact absI c
          · skip
            unfold j_X11_sums_139
            intro h_140 e_h_140
            have hJ := hJ.hu e_h_140 (by unfold SSm; omega)
            have hR_h_140 := hR.kj hJ (fun k => by unfold SSm; omega)
            refine ⟨fun c => ?_, fun c => ?_⟩
            · exact absI c
            · skip
              unfold j_X11_sums_161
              intro h_162 e_h_162
              have hJ := hJ.hu e_h_162 (by unfold SSm; omega)
              have hR_h_162 := hR.kj hJ (fun k => by unfold SSm; omega)
              rintro _ rfl
              exact hK1 _ ⟨hJ, rfl, rfl, rfl, rfl, (inc_b (by with_reducible assumption) (by decide) (by decide)), trivial⟩ (mu_lt (by with_reducible assumption) (by decide))
      · skip
        exact hJ
theorem p_X11_holds0 {h : HI} {g : HL} (hR : RI (h 136)) {x1 : Int32} {x2 : Int32} {x3 : Int32} {x4 : Int32} (b_x1 : bd (0) (15) x1) (hpq : bd 0 23 x3 ∨ x4 = -2) : w_X11_holds0 x1 x2 x3 x4 h g (fun r h' g' => KJ (SSm) h h') := by
  unfold w_X11_holds0
  have hJ : KJ (SSm) h h := KJ.rf
  refine c_z (p_X11_sums hR (bd.mo (by with_reducible assumption) (by decide) (by decide)) (by first | exact .inr rfl | exact hpq | exact .inl (bd.mo (by with_reducible assumption) (by decide) (by decide)))) ?_
  rintro r_6 h_6 g_6 hJ2
  have hJ := hJ.tr (hJ2)
  have hR_h_6 := hR.kj hJ (fun k => by unfold SSm; omega)
  refine ⟨fun c => ?_, fun c => ?_⟩
  · skip
    exact hJ
  · skip
    refine c_i (p_X11_chainOf hR_h_6 (bd.mo (by with_reducible assumption) (by decide) (by decide)) (bd.mo (bd_lit (n := 0) (by decide)) (by decide) (by decide)) ) ?_
    rintro _ _ _ ⟨rfl, rfl, rfl⟩
    refine ⟨fun c => ?_, fun c => ?_⟩
    · skip
      exact hJ
    · skip
      refine c_i (p_X11_chainOf hR_h_6 (bd.mo (by with_reducible assumption) (by decide) (by decide)) (bd.mo (bd_lit (n := 1) (by decide)) (by decide) (by decide)) ) ?_
      rintro _ _ _ ⟨rfl, rfl, rfl⟩
      refine ⟨fun c => ?_, fun c => ?_⟩
      · skip
        exact hJ
      · skip
        exact hJ
theorem p_X11_sum {h : HI} {g : HL} (hR : RI (h 136)) {x1 : Int32} {x2 : Int32} {x3 : Int32}   : w_X11_sum x1 x2 x3 h g (fun r h' g' => KJ (SSm) h h') := by
  unfold w_X11_sum
  have hJ : KJ (SSm) h h := KJ.rf
  refine c_is (vp_in_iff.mpr (by decide)) hR.c2 (by decide) (fun q q1 => ?_) (fun q => ?_)
  · skip
    refine ⟨fun c => ?_, fun c => ?_⟩
    · exact absI c
    · skip
      refine c_yr (fun q => ?_) (fun q => ?_)
      · skip
        refine ⟨fun c => ?_, fun c => ?_⟩
        · exact absI c
        · skip
          refine c_in3 (fun q => ?_) (fun q => ?_)
          · skip
            refine ⟨fun c => ?_, fun c => ?_⟩
            · skip
              refine ⟨fun c => ?_, fun c => ?_⟩
              · skip
                refine c_z (p_X11_sums hR (bd.mo (by with_reducible assumption) (by decide) (by decide)) (by first | exact .inr rfl | exact hpq | exact .inl (bd.mo (by with_reducible assumption) (by decide) (by decide)))) ?_
                rintro r_60 h_60 g_60 hJ2
                have hJ := hJ.tr (hJ2)
                have hR_h_60 := hR.kj hJ (fun k => by unfold SSm; omega)
                refine ⟨fun c => ?_, fun c => ?_⟩
                · skip
                  refine ⟨fun c => ?_, fun c => ?_⟩
                  · skip
                    exact hJ
                  · skip
                    exact hJ
                · skip
                  exact hJ
              · skip
                refine c_z (p_X11_holds0 hR (bd.mo (by with_reducible assumption) (by decide) (by decide)) (by first | exact .inr rfl | exact hpq | exact .inl (bd.mo (by with_reducible assumption) (by decide) (by decide)))) ?_
                rintro r_42 h_42 g_42 hJ2
                have hJ := hJ.tr (hJ2)
                have hR_h_42 := hR.kj hJ (fun k => by unfold SSm; omega)
                refine ⟨fun c => ?_, fun c => ?_⟩
                · skip
                  exact hJ
                · skip
                  exact hJ
            · exact absI c
          · skip
            refine ⟨fun c => ?_, fun c => ?_⟩
            · exact absN c
            · skip
              exact hJ
      · skip
        refine ⟨fun c => ?_, fun c => ?_⟩
        · skip
          exact hJ
        · exact absN c
  · skip
    refine ⟨fun c => ?_, fun c => ?_⟩
    · skip
      exact hJ
    · exact absN c
theorem p_X11_stands {h : HI} {g : HL} (hR : RI (h 136)) {x1 : Int32} {x2 : Int32} {x3 : Int32}   : w_X11_stands x1 x2 x3 h g (fun r h' g' => KJ (SSm) h h') := by
  unfold w_X11_stands
  have hJ : KJ (SSm) h h := KJ.rf
  refine c_is (vp_in_iff.mpr (by decide)) hR.c0 (by decide) (fun q q1 => ?_) (fun q => ?_)
  · skip
    refine ⟨fun c => ?_, fun c => ?_⟩
    · exact absI c
    · skip
      refine c_is (vp_in_iff.mpr (by decide)) hR.c0 (by decide) (fun q q1 => ?_) (fun q => ?_)
      · skip
        refine ⟨fun c => ?_, fun c => ?_⟩
        · exact absI c
        · skip
          refine ⟨fun c => ?_, fun c => ?_⟩
          · skip
            exact hJ
          · skip
            refine c_yr (fun q => ?_) (fun q => ?_)
            · skip
              refine ⟨fun c => ?_, fun c => ?_⟩
              · skip
                refine lpE_intro (fun ⟨x1_q, x2_q, x3_q, x4_q, h_q, g_q⟩ => KJ (SSm) h h_q ∧ x1 = x1_q ∧ x2 = x2_q ∧ x3 = x3_q ∧ 0 ≤ x4_q.toInt ∧ True) (fun ⟨x1_q, x2_q, x3_q, x4_q, h_q, g_q⟩ => ((16 : Int) - x4_q.toInt).toNat) ?_ _ ⟨hJ, rfl, rfl, rfl, ge0, trivial⟩
                rintro ⟨x1_1, x2_1, x3_1, x4_1, h_1, g_1⟩ K1 ⟨hJ, rfl, rfl, rfl, i1_0, -⟩ hK1
                unfold F_X11_stands_36; dsimp only; unfold b_X11_stands_36
                have hR_h_1 := hR.kj hJ (fun k => by unfold SSm; omega)
                refine and_have (by exact vp_in_iff.mpr (by decide)) (fun hv => ?_)
                refine ⟨fun c => ?_, fun c => ?_⟩
                · skip
                  exact hJ
                · skip
                  have hb := bd_up (x := x4_1) (by with_reducible assumption) c hR_h_1.c2
                  refine c_z (p_X11_has hR_h_1 (bd.mo (by with_reducible assumption) (by decide) (by decide)) ) ?_
                  rintro r_51 _ _ ⟨rfl, rfl⟩
                  refine ⟨fun c => ?_, fun c => ?_⟩
                  · skip
                    unfold j_X11_stands_81
                    rintro _ rfl
                    exact hK1 _ ⟨hJ, rfl, rfl, rfl, (inc_b (by with_reducible assumption) (by decide) (by decide)), trivial⟩ (mu_lt (by with_reducible assumption) (by decide))
                  · skip
                    refine c_z (p_X11_has hR_h_1 (bd.mo (by with_reducible assumption) (by decide) (by decide)) ) ?_
                    rintro r_61 _ _ ⟨rfl, rfl⟩
                    refine ⟨fun c => ?_, fun c => ?_⟩
                    · skip
                      exact hJ
                    · skip
                      refine c_z (p_X11_holds0 hR_h_1 (bd.mo (by with_reducible assumption) (by decide) (by decide)) (by first | exact .inr rfl | exact hpq | exact .inl (bd.mo (by with_reducible assumption) (by decide) (by decide)))) ?_
                      rintro r_73 h_73 g_73 hJ2
                      have hJ := hJ.tr (hJ2)
                      have hR_h_73 := hR.kj hJ (fun k => by unfold SSm; omega)
                      refine ⟨fun c => ?_, fun c => ?_⟩
                      · skip
                        unfold j_X11_stands_81
                        rintro _ rfl
                        exact hK1 _ ⟨hJ, rfl, rfl, rfl, (inc_b (by with_reducible assumption) (by decide) (by decide)), trivial⟩ (mu_lt (by with_reducible assumption) (by decide))
                      · skip
                        exact hJ
              · exact absI c
            · skip
              refine ⟨fun c => ?_, fun c => ?_⟩
              · exact absN c
              · skip
                exact hJ
      · skip
        refine ⟨fun c => ?_, fun c => ?_⟩
        · skip
          exact hJ
        · exact absN c
  · skip
    refine ⟨fun c => ?_, fun c => ?_⟩
    · skip
      exact hJ
    · exact absN c
theorem p_X11_life {h : HI} {g : HL} (hR : RI (h 136)) {x1 : Int32} {x2 : Int32}   : w_X11_life x1 x2 h g (fun r h' g' => KJ (SSm) h h') := by
  unfold w_X11_life
  have hJ : KJ (SSm) h h := KJ.rf
  refine c_is (vp_in_iff.mpr (by decide)) hR.c2 (by decide) (fun q q1 => ?_) (fun q => ?_)
  · skip
    refine ⟨fun c => ?_, fun c => ?_⟩
    · exact absI c
    · skip
      refine c_yr (fun q => ?_) (fun q => ?_)
      · skip
        refine ⟨fun c => ?_, fun c => ?_⟩
        · skip
          refine lpE_intro (fun ⟨x1_q, x2_q, x3_q, h_q, g_q⟩ => KJ (SSm) h h_q ∧ x1 = x1_q ∧ x2 = x2_q ∧ (0 ≤ x3_q.toInt ∧ x3_q.toInt ≤ 100) ∧ True) (fun ⟨x1_q, x2_q, x3_q, h_q, g_q⟩ => ((100 : Int) - x3_q.toInt).toNat) ?_ _ ⟨hJ, rfl, rfl, ⟨ge0, by decide⟩, trivial⟩
          rintro ⟨x1_1, x2_1, x3_1, h_1, g_1⟩ K1 ⟨hJ, rfl, rfl, i1_0, -⟩ hK1
          unfold F_X11_life_21; dsimp only; unfold b_X11_life_21
          have hR_h_1 := hR.kj hJ (fun k => by unfold SSm; omega)
          refine ⟨fun c => ?_, fun c => ?_⟩
          · skip
            exact hJ
          · skip
            have hb := lf_b (by with_reducible assumption) i1_0 c
            refine c_z (p_X11_holds0 hR_h_1 (bd.mo (by with_reducible assumption) (by decide) (by decide)) (by first | exact .inr rfl | exact hpq | exact .inl (bd.mo (by with_reducible assumption) (by decide) (by decide)))) ?_
            rintro r_37 h_37 g_37 hJ2
            have hJ := hJ.tr (hJ2)
            have hR_h_37 := hR.kj hJ (fun k => by unfold SSm; omega)
            refine ⟨fun c => ?_, fun c => ?_⟩
            · skip
              exact hJ
            · skip
              rintro _ rfl
              exact hK1 _ ⟨hJ, rfl, rfl, ⟨inc_b (by with_reducible assumption) (by decide) (by decide), inc_b2 (by with_reducible assumption)⟩, trivial⟩ (mu_lt (by with_reducible assumption) (by decide))
        · exact absI c
      · skip
        refine ⟨fun c => ?_, fun c => ?_⟩
        · exact absN c
        · skip
          exact hJ
  · skip
    refine ⟨fun c => ?_, fun c => ?_⟩
    · skip
      exact hJ
    · exact absN c
theorem p_X11_worn {h : HI} {g : HL} (hR : RI (h 136)) {x1 : Int32} {x2 : Int32}   : w_X11_worn x1 x2 h g (fun r h' g' => KJ (SRd) h h') := by
  unfold w_X11_worn
  have hJ : KJ (SRd) h h := KJ.rf
  refine c_is (vp_in_iff.mpr (by decide)) hR.c0 (by decide) (fun q q1 => ?_) (fun q => ?_)
  · skip
    refine ⟨fun c => ?_, fun c => ?_⟩
    · exact absI c
    · skip
      refine c_yr (fun q => ?_) (fun q => ?_)
      · skip
        refine ⟨fun c => ?_, fun c => ?_⟩
        · exact absI c
        · skip
          refine c_i (p_X11_wornOf hR (bd.mo (by with_reducible assumption) (by decide) (by decide)) ) ?_
          rintro r_19 h_19 g_19 hJ2
          have hJ := hJ.tr (hJ2)
          have hR_h_19 := hR.kj hJ (fun k => by unfold SRd; omega)
          exact hJ
      · skip
        refine ⟨fun c => ?_, fun c => ?_⟩
        · skip
          exact hJ
        · exact absN c
  · skip
    refine ⟨fun c => ?_, fun c => ?_⟩
    · skip
      exact hJ
    · exact absN c
theorem p_X11_fault {h : HI} {g : HL} (hR : RI (h 136))    : w_X11_fault h g (fun r h' g' => KJ (SRd) h h') := by
  unfold w_X11_fault
  have hJ : KJ (SRd) h h := KJ.rf
  refine c_i (p_X11_reads hR ) ?_
  rintro r_1 h_1 g_1 ⟨hJ2, _⟩
  have hJ := hJ.tr (hJ2)
  have hR_h_1 := hR.kj hJ (fun k => by unfold SRd; omega)
  exact hJ
theorem p_X11_denied {h : HI} {g : HL} (hR : RI (h 136))    : w_X11_denied h g (fun r h' g' => h = h' ∧ g = g') := by
  unfold w_X11_denied
  refine lpE_intro (fun ⟨x1_q, x2_q, h_q, g_q⟩ => h = h_q ∧ g = g_q ∧ 0 ≤ x2_q.toInt ∧ True) (fun ⟨x1_q, x2_q, h_q, g_q⟩ => ((60 : Int) - x2_q.toInt).toNat) ?_ _ ⟨rfl, rfl, ge0, trivial⟩
  rintro ⟨x1_1, x2_1, h_1, g_1⟩ K1 ⟨rfl, rfl, i1_0, -⟩ hK1
  unfold F_X11_denied_4; dsimp only; unfold b_X11_denied_4
  refine and_have (by exact vp_in_iff.mpr (by decide)) (fun hv => ?_)
  refine ⟨fun c => ?_, fun c => ?_⟩
  · skip
    exact ⟨rfl, rfl⟩
  · skip
    have hb := bd_up (x := x2_1) (by with_reducible assumption) c hR.c1
    refine c_i (p_X11_sayOf hR (bd.mo (by with_reducible assumption) (by decide) (by decide)) (bd.mo (bd_lit (n := 5) (by decide)) (by decide) (by decide)) ) ?_
    rintro _ _ _ ⟨rfl, rfl, rfl⟩
    rintro _ rfl
    rintro _ rfl
    exact hK1 _ ⟨rfl, rfl, (inc_b (by with_reducible assumption) (by decide) (by decide)), trivial⟩ (mu_lt (by with_reducible assumption) (by decide))
theorem p_X11_countOf {h : HI} {g : HL} (hR : RI (h 136)) {x1 : Int32} (b_x1 : bd (0) (9) x1)  : w_X11_countOf x1 h g (fun r h' g' => h = h' ∧ g = g') := by
  unfold w_X11_countOf
  refine ⟨fun c => ?_, fun c => ?_⟩
  · skip
    have hq2 := bd_2 c b_x1
    refine ⟨fun c => ?_, fun c => ?_⟩
    · skip
      refine and_have (by exact vp_bd (bd_sub (by with_reducible assumption) (bd_lit (n := 1) (by decide)) (by decide) (by decide)) (by decide) (by decide)) (fun hv => ?_)
      exact ⟨rfl, rfl⟩
    · skip
      refine c_i (p_X11_denied hR ) ?_
      rintro r_20 _ _ ⟨rfl, rfl⟩
      exact ⟨rfl, rfl⟩
  · skip
    refine and_have (by exact vp_bd (by with_reducible assumption) (by decide) (by decide)) (fun hv => ?_)
    exact ⟨rfl, rfl⟩
