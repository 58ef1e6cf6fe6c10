theorem p_X0_set {h : HI} {g : HL} (hC : CI h) {o : Nat} {x1 : Int32}  (hB : 76 ≤ o) : w_X0_set o x1 h g (fun h' g' => JJ (SB o) h h') := by
  unfold w_X0_set
  have hJ : JJ (SB o) h h := JJ.rf
  refine and_have (by exact vp_in_iff.mpr (by decide)) (fun hv => ?_)
  intro h_6 e_h_6
  have hJ := hJ.hu e_h_6 (by unfold SB; omega)
  intro h_9 e_h_9
  have hJ := hJ.hu e_h_9 (by unfold SB; omega)
  exact hJ
theorem p_X0_copy {h : HI} {g : HL} (hC : CI h) {o : Nat} {o1 : Nat}  (hB : 76 ≤ o) : w_X0_copy o o1 h g (fun h' g' => JJ (SB o) h h') := by
  unfold w_X0_copy
  have hJ : JJ (SB o) h h := JJ.rf
  refine and_have (by first | decide | with_reducible assumption) (fun hv => ?_)
  intro h_12 e_h_12
  have hJ := hJ.hua e_h_12 (by unfold SB; omega)
  intro h_20 e_h_20
  have hJ := hJ.hu e_h_20 (by unfold SB; omega)
  exact hJ
theorem p_X0_times {h : HI} {g : HL} (hC : CI h) {o : Nat} {x1 : Int32}  (hB : 76 ≤ o) : w_X0_times o x1 h g (fun h' g' => JJ (SB o) h h') := by
  unfold w_X0_times
  have hJ : JJ (SB o) h h := JJ.rf
  refine lpE_intro (fun ⟨x1_q, x2_q, x4_q, h_q, g_q⟩ => JJ (SB o) h h_q ∧ x1 = x1_q ∧ ¬ x4_q < 0 ∧ True) (fun ⟨x1_q, x2_q, x4_q, h_q, g_q⟩ => dif (70 : Int32) x4_q) ?_ _ ⟨hJ, rfl, nn0, trivial⟩
  rintro ⟨x1_1, x2_1, x4_1, h_1, g_1⟩ K1 ⟨hJ, rfl, i1_0, -⟩ hK1
  unfold F_X0_times_5; dsimp only; unfold b_X0_times_5
  refine ⟨fun c => ?_, fun c => ?_⟩
  · skip
    unfold j_X0_times_59
    refine ⟨fun c => ?_, fun c => ?_⟩
    · skip
      exact hJ
    · skip
      refine c_w (fun c c' => ?_) (fun c => ?_)
      · skip
        refine ⟨fun c => ?_, fun c => ?_⟩
        · exact absI c
        · skip
          refine and_have (by first | with_reducible assumption | exact vin (by with_reducible assumption) (by with_reducible assumption) (by decide) | exact vinc (by with_reducible assumption) (by with_reducible assumption) (by decide) | exact vinw (by with_reducible assumption) (by with_reducible assumption) (by decide) (by decide) | exact vinl (by with_reducible assumption) (by with_reducible assumption) (by decide) | exact v60a (by with_reducible assumption) (by with_reducible assumption) | exact v60b (by with_reducible assumption) (by with_reducible assumption) | exact v60b' (by with_reducible assumption) (by with_reducible assumption) | exact v60c (by with_reducible assumption) (by with_reducible assumption) | exact v60d (by with_reducible assumption) (by with_reducible assumption)) (fun hv => ?_)
          intro h_88 e_h_88
          have hJ := hJ.hu e_h_88 (by unfold SB; omega)
          intro h_96 e_h_96
          have hJ := hJ.hu e_h_96 (by unfold SB; omega)
          exact hJ
      · skip
        refine ⟨fun c => ?_, fun c => ?_⟩
        · skip
          exact hJ
        · exact absN c
  · skip
    refine ⟨fun c => ?_, fun c => ?_⟩
    · skip
      unfold j_X0_times_59
      refine ⟨fun c => ?_, fun c => ?_⟩
      · skip
        exact hJ
      · skip
        refine c_w (fun c c' => ?_) (fun c => ?_)
        · skip
          refine ⟨fun c => ?_, fun c => ?_⟩
          · exact absI c
          · skip
            refine and_have (by first | with_reducible assumption | exact vin (by with_reducible assumption) (by with_reducible assumption) (by decide) | exact vinc (by with_reducible assumption) (by with_reducible assumption) (by decide) | exact vinw (by with_reducible assumption) (by with_reducible assumption) (by decide) (by decide) | exact vinl (by with_reducible assumption) (by with_reducible assumption) (by decide) | exact v60a (by with_reducible assumption) (by with_reducible assumption) | exact v60b (by with_reducible assumption) (by with_reducible assumption) | exact v60b' (by with_reducible assumption) (by with_reducible assumption) | exact v60c (by with_reducible assumption) (by with_reducible assumption) | exact v60d (by with_reducible assumption) (by with_reducible assumption)) (fun hv => ?_)
            intro h_88 e_h_88
            have hJ := hJ.hu e_h_88 (by unfold SB; omega)
            intro h_96 e_h_96
            have hJ := hJ.hu e_h_96 (by unfold SB; omega)
            exact hJ
        · skip
          refine ⟨fun c => ?_, fun c => ?_⟩
          · skip
            exact hJ
          · exact absN c
    · skip
      refine and_have (by first | with_reducible assumption | exact vin (by with_reducible assumption) (by with_reducible assumption) (by decide) | exact vinc (by with_reducible assumption) (by with_reducible assumption) (by decide) | exact vinw (by with_reducible assumption) (by with_reducible assumption) (by decide) (by decide) | exact vinl (by with_reducible assumption) (by with_reducible assumption) (by decide) | exact v60a (by with_reducible assumption) (by with_reducible assumption) | exact v60b (by with_reducible assumption) (by with_reducible assumption) | exact v60b' (by with_reducible assumption) (by with_reducible assumption) | exact v60c (by with_reducible assumption) (by with_reducible assumption) | exact v60d (by with_reducible assumption) (by with_reducible assumption)) (fun hv => ?_)
      rintro _ rfl
      refine and_have (by first | with_reducible assumption | exact vin (by with_reducible assumption) (by with_reducible assumption) (by decide) | exact vinc (by with_reducible assumption) (by with_reducible assumption) (by decide) | exact vinw (by with_reducible assumption) (by with_reducible assumption) (by decide) (by decide) | exact vinl (by with_reducible assumption) (by with_reducible assumption) (by decide) | exact v60a (by with_reducible assumption) (by with_reducible assumption) | exact v60b (by with_reducible assumption) (by with_reducible assumption) | exact v60b' (by with_reducible assumption) (by with_reducible assumption) | exact v60c (by with_reducible assumption) (by with_reducible assumption) | exact v60d (by with_reducible assumption) (by with_reducible assumption)) (fun hv => ?_)
      intro h_47 e_h_47
      have hJ := hJ.hu e_h_47 (by unfold SB; omega)
      rintro _ rfl
      rintro _ rfl
      exact hK1 _ ⟨hJ, rfl, (inc_nn (by with_reducible assumption) (by with_reducible assumption)), trivial⟩ (dif_lt (by with_reducible assumption))
theorem p_X0_above {h : HI} {g : HL} (hC : CI h) {o : Nat} {o1 : Nat}   : w_X0_above o o1 h g (fun r h' g' => h = h' ∧ g = g') := by
  unfold w_X0_above
  refine ⟨fun c => ?_, fun c => ?_⟩
  · skip
    rintro _ rfl
    refine lpE_intro (fun ⟨x2_q, h_q, g_q⟩ => h = h_q ∧ g = g_q ∧ True) (fun ⟨x2_q, h_q, g_q⟩ => prd x2_q) ?_ _ ⟨rfl, rfl, trivial⟩
    rintro ⟨x2_1, h_1, g_1⟩ K1 ⟨rfl, rfl, -⟩ hK1
    unfold F_X0_above_35; dsimp only; unfold b_X0_above_35
    refine ⟨fun c => ?_, fun c => ?_⟩
    · skip
      exact ⟨rfl, rfl⟩
    · skip
      refine ⟨fun c => ?_, fun c => ?_⟩
      · skip
        exact ⟨rfl, rfl⟩
      · skip
        refine and_have (by first | with_reducible assumption | exact vin (by with_reducible assumption) (by with_reducible assumption) (by decide) | exact vinc (by with_reducible assumption) (by with_reducible assumption) (by decide) | exact vinw (by with_reducible assumption) (by with_reducible assumption) (by decide) (by decide) | exact vinl (by with_reducible assumption) (by with_reducible assumption) (by decide) | exact v60a (by with_reducible assumption) (by with_reducible assumption) | exact v60b (by with_reducible assumption) (by with_reducible assumption) | exact v60b' (by with_reducible assumption) (by with_reducible assumption) | exact v60c (by with_reducible assumption) (by with_reducible assumption) | exact v60d (by with_reducible assumption) (by with_reducible assumption)) (fun hv => ?_)
        refine and_have (by first | with_reducible assumption | exact vin (by with_reducible assumption) (by with_reducible assumption) (by decide) | exact vinc (by with_reducible assumption) (by with_reducible assumption) (by decide) | exact vinw (by with_reducible assumption) (by with_reducible assumption) (by decide) (by decide) | exact vinl (by with_reducible assumption) (by with_reducible assumption) (by decide) | exact v60a (by with_reducible assumption) (by with_reducible assumption) | exact v60b (by with_reducible assumption) (by with_reducible assumption) | exact v60b' (by with_reducible assumption) (by with_reducible assumption) | exact v60c (by with_reducible assumption) (by with_reducible assumption) | exact v60d (by with_reducible assumption) (by with_reducible assumption)) (fun hv => ?_)
        refine ⟨fun c => ?_, fun c => ?_⟩
        · skip
          rintro _ rfl
          exact hK1 _ ⟨rfl, rfl, trivial⟩ (prd_lt (by with_reducible assumption))
        · skip
          refine and_have (by first | with_reducible assumption | exact vin (by with_reducible assumption) (by with_reducible assumption) (by decide) | exact vinc (by with_reducible assumption) (by with_reducible assumption) (by decide) | exact vinw (by with_reducible assumption) (by with_reducible assumption) (by decide) (by decide) | exact vinl (by with_reducible assumption) (by with_reducible assumption) (by decide) | exact v60a (by with_reducible assumption) (by with_reducible assumption) | exact v60b (by with_reducible assumption) (by with_reducible assumption) | exact v60b' (by with_reducible assumption) (by with_reducible assumption) | exact v60c (by with_reducible assumption) (by with_reducible assumption) | exact v60d (by with_reducible assumption) (by with_reducible assumption)) (fun hv => ?_)
          refine and_have (by first | with_reducible assumption | exact vin (by with_reducible assumption) (by with_reducible assumption) (by decide) | exact vinc (by with_reducible assumption) (by with_reducible assumption) (by decide) | exact vinw (by with_reducible assumption) (by with_reducible assumption) (by decide) (by decide) | exact vinl (by with_reducible assumption) (by with_reducible assumption) (by decide) | exact v60a (by with_reducible assumption) (by with_reducible assumption) | exact v60b (by with_reducible assumption) (by with_reducible assumption) | exact v60b' (by with_reducible assumption) (by with_reducible assumption) | exact v60c (by with_reducible assumption) (by with_reducible assumption) | exact v60d (by with_reducible assumption) (by with_reducible assumption)) (fun hv => ?_)
          refine ⟨fun c => ?_, fun c => ?_⟩
          · skip
            exact ⟨rfl, rfl⟩
          · skip
            exact ⟨rfl, rfl⟩
  · skip
    refine ⟨fun c => ?_, fun c => ?_⟩
    · skip
      exact ⟨rfl, rfl⟩
    · skip
      exact ⟨rfl, rfl⟩
theorem p_X0_rows {h : HI} {g : HL} (hC : CI h) {o : Nat}   : w_X0_rows o h g (fun r h' g' => h = h' ∧ g = g') := by
  unfold w_X0_rows
  exact ⟨rfl, rfl⟩
theorem p_X0_at {h : HI} {g : HL} (hC : CI h) {o : Nat} {x1 : Int32}   : w_X0_at o x1 h g (fun r h' g' => h = h' ∧ g = g') := by
  unfold w_X0_at
  refine c_w (fun c c' => ?_) (fun c => ?_)
  · skip
    refine ⟨fun c => ?_, fun c => ?_⟩
    · exact absI c
    · skip
      refine ⟨fun c => ?_, fun c => ?_⟩
      · skip
        exact ⟨rfl, rfl⟩
      · skip
        refine and_have (by first | with_reducible assumption | exact vin (by with_reducible assumption) (by with_reducible assumption) (by decide) | exact vinc (by with_reducible assumption) (by with_reducible assumption) (by decide) | exact vinw (by with_reducible assumption) (by with_reducible assumption) (by decide) (by decide) | exact vinl (by with_reducible assumption) (by with_reducible assumption) (by decide) | exact v60a (by with_reducible assumption) (by with_reducible assumption) | exact v60b (by with_reducible assumption) (by with_reducible assumption) | exact v60b' (by with_reducible assumption) (by with_reducible assumption) | exact v60c (by with_reducible assumption) (by with_reducible assumption) | exact v60d (by with_reducible assumption) (by with_reducible assumption)) (fun hv => ?_)
        exact ⟨rfl, rfl⟩
  · skip
    refine ⟨fun c => ?_, fun c => ?_⟩
    · skip
      exact ⟨rfl, rfl⟩
    · exact absN c
theorem p_X1_side {h : HI} {g : HL} (hC : CI h) {x1 : Int32}   : w_X1_side x1 h g (fun r h' g' => h = h' ∧ g = g' ∧ isB r) := by
  unfold w_X1_side
  refine ⟨fun c => ?_, fun c => ?_⟩
  · skip
    unfold j_X1_side_15
    exact ⟨rfl, rfl, (by unfold isB; decide)⟩
  · skip
    unfold j_X1_side_15
    exact ⟨rfl, rfl, (by unfold isB; decide)⟩
theorem p_X1_oddsOf {h : HI} {g : HL} (hC : CI h) {x0 : Int32} {x1 : Int32} {x2 : Int32}   : w_X1_oddsOf x0 x1 x2 h g (fun r h' g' => h = h' ∧ g = g') := by
  unfold w_X1_oddsOf
  exact ⟨rfl, rfl⟩
theorem p_X1_shorten {h : HI} {g : HL} (hC : CI h) {x1 : Int32}   : w_X1_shorten x1 h g (fun h' g' => JJ (SBrk) h h') := by
  unfold w_X1_shorten
  have hJ : JJ (SBrk) h h := JJ.rf
  refine ⟨fun c => ?_, fun c => ?_⟩
  · skip
    exact hJ
  · skip
    refine and_have (by exact ne0 (by with_reducible assumption)) (fun hv => ?_)
    refine ⟨fun c => ?_, fun c => ?_⟩
    · skip
      exact hJ
    · skip
      refine and_have (by exact ne0 (by with_reducible assumption)) (fun hv => ?_)
      refine ⟨fun c => ?_, fun c => ?_⟩
      · skip
        exact hJ
      · skip
        refine and_have (by exact ne0 (by with_reducible assumption)) (fun hv => ?_)
        intro h_29 e_h_29
        have hJ := hJ.hu e_h_29 (by unfold SBrk; omega)
        refine and_have (by exact ne0 (by with_reducible assumption)) (fun hv => ?_)
        intro h_39 e_h_39
        have hJ := hJ.hu e_h_39 (by unfold SBrk; omega)
        exact hJ
theorem p_X1_chooseYear {h : HI} {g : HL} (hC : CI h) {x1 : Int32}   : w_X1_chooseYear x1 h g (fun h' g' => JJ (SBrk) h h') := by
  unfold w_X1_chooseYear
  have hJ : JJ (SBrk) h h := JJ.rf
  refine c_i (p_atJ hC hJ nSBrk gs_16) ?_
  rintro _ _ _ ⟨rfl, rfl, rfl⟩
  refine c_i (p_atJ hC hJ nSBrk gs_16) ?_
  rintro _ _ _ ⟨rfl, rfl, rfl⟩
  refine c_i (p_atJ hC hJ nSBrk gs_2) ?_
  rintro _ _ _ ⟨rfl, rfl, rfl⟩
  refine c_i (p_X1_oddsOf (hC.jj hJ nSBrk) ) ?_
  rintro r_47 _ _ ⟨rfl, rfl⟩
  intro h_54 e_h_54
  have hJ := hJ.hu e_h_54 (by unfold SBrk; omega)
  intro h_61 e_h_61
  have hJ := hJ.hu e_h_61 (by unfold SBrk; omega)
  refine lpE_intro (fun ⟨x4_q, h_q, g_q⟩ => JJ (SBrk) h h_q ∧ True) (fun ⟨x4_q, h_q, g_q⟩ => dif (3 : Int32) x4_q) ?_ _ ⟨hJ, trivial⟩
  rintro ⟨x4_1, h_1, g_1⟩ K1 ⟨hJ, -⟩ hK1
  unfold F_X1_chooseYear_67; dsimp only; unfold b_X1_chooseYear_67
  refine ⟨fun c => ?_, fun c => ?_⟩
  · skip
    exact hJ
  · skip
    refine c_v (p_X1_shorten (hC.jj hJ nSBrk) ) ?_
    rintro h_75 g_75 hJ2
    have hJ := hJ.tr (hJ2)
    refine c_v (p_X1_shorten (hC.jj hJ nSBrk) ) ?_
    rintro h_80 g_80 hJ2
    have hJ := hJ.tr (hJ2)
    rintro _ rfl
    exact hK1 _ ⟨hJ, trivial⟩ (dif_lt (by with_reducible assumption))
theorem p_X1_last {h : HI} {g : HL} (hC : CI h) {x1 : Int32} {x2 : Int32}   : w_X1_last x1 x2 h g (fun h' g' => JJ (SBrk) h h') := by
  unfold w_X1_last
  have hJ : JJ (SBrk) h h := JJ.rf
  refine c_v (p_X1_chooseYear (hC.jj hJ nSBrk) ) ?_
  rintro h_2 g_2 hJ2
  have hJ := hJ.tr (hJ2)
  refine c_v (p_X0_set (hC.jj hJ nSBrk) (by decide)) ?_
  rintro h_10 g_10 hJ2
  have hJ := hJ.tr (hJ2.mo (fun q hq => by unfold SB at hq; unfold SBrk; omega))
  refine c_v (p_X0_set (hC.jj hJ nSBrk) (by decide)) ?_
  rintro h_18 g_18 hJ2
  have hJ := hJ.tr (hJ2.mo (fun q hq => by unfold SB at hq; unfold SBrk; omega))
  refine lpE_intro (fun ⟨x2_q, x3_q, h_q, g_q⟩ => JJ (SBrk) h h_q ∧ x2 = x2_q ∧ True) (fun ⟨x2_q, x3_q, h_q, g_q⟩ => dif x2_q x3_q) ?_ _ ⟨hJ, rfl, trivial⟩
  rintro ⟨x2_1, x3_1, h_1, g_1⟩ K1 ⟨hJ, rfl, -⟩ hK1
  unfold F_X1_last_23; dsimp only; unfold b_X1_last_23
  refine ⟨fun c => ?_, fun c => ?_⟩
  · skip
    exact hJ
  · skip
    refine c_v (p_X0_times (hC.jj hJ nSBrk) (by decide)) ?_
    rintro h_36 g_36 hJ2
    have hJ := hJ.tr (hJ2.mo (fun q hq => by unfold SB at hq; unfold SBrk; omega))
    refine c_v (p_X0_times (hC.jj hJ nSBrk) (by decide)) ?_
    rintro h_47 g_47 hJ2
    have hJ := hJ.tr (hJ2.mo (fun q hq => by unfold SB at hq; unfold SBrk; omega))
    rintro _ rfl
    exact hK1 _ ⟨hJ, rfl, trivial⟩ (dif_lt (by with_reducible assumption))
theorem p_X1_halved {h : HI} {g : HL} (hC : CI h) {x1 : Int32}   : w_X1_halved x1 h g (fun r h' g' => JJ (SBrk) h h') := by
  unfold w_X1_halved
  have hJ : JJ (SBrk) h h := JJ.rf
  refine c_v (p_X1_chooseYear (hC.jj hJ nSBrk) ) ?_
  rintro h_2 g_2 hJ2
  have hJ := hJ.tr (hJ2)
  refine c_v (p_X0_set (hC.jj hJ nSBrk) (by decide)) ?_
  rintro h_10 g_10 hJ2
  have hJ := hJ.tr (hJ2.mo (fun q hq => by unfold SB at hq; unfold SBrk; omega))
  refine c_v (p_X0_set (hC.jj hJ nSBrk) (by decide)) ?_
  rintro h_18 g_18 hJ2
  have hJ := hJ.tr (hJ2.mo (fun q hq => by unfold SB at hq; unfold SBrk; omega))
  refine lpE_intro (fun ⟨x2_q, h_q, g_q⟩ => JJ (SBrk) h h_q ∧ True) (fun ⟨x2_q, h_q, g_q⟩ => dil (200 : Int32) x2_q) ?_ _ ⟨hJ, trivial⟩
  rintro ⟨x2_1, h_1, g_1⟩ K1 ⟨hJ, -⟩ hK1
  unfold F_X1_halved_23; dsimp only; unfold b_X1_halved_23
  refine ⟨fun c => ?_, fun c => ?_⟩
  · skip
    exact hJ
  · skip
    refine c_v (p_X0_times (hC.jj hJ nSBrk) (by decide)) ?_
    rintro h_38 g_38 hJ2
    have hJ := hJ.tr (hJ2.mo (fun q hq => by unfold SB at hq; unfold SBrk; omega))
    refine c_v (p_X0_times (hC.jj hJ nSBrk) (by decide)) ?_
    rintro h_49 g_49 hJ2
    have hJ := hJ.tr (hJ2.mo (fun q hq => by unfold SB at hq; unfold SBrk; omega))
    refine c_z (p_X0_above (hC.jj hJ nSBrk) ) ?_
    rintro r_60 _ _ ⟨rfl, rfl⟩
    refine ⟨fun c => ?_, fun c => ?_⟩
    · skip
      rintro _ rfl
      exact hK1 _ ⟨hJ, trivial⟩ (dil_lt (by with_reducible assumption) (by decide))
    · skip
      exact hJ
theorem p_X1_weigh {h : HI} {g : HL} (hC : CI h) {x1 : Int32} {x2 : Int32}   : w_X1_weigh x1 x2 h g (fun r h' g' => JJ (SBrk) h h') := by
  unfold w_X1_weigh
  have hJ : JJ (SBrk) h h := JJ.rf
  refine c_v (p_X0_set (hC.jj hJ nSBrk) (by decide)) ?_
  rintro h_5 g_5 hJ2
  have hJ := hJ.tr (hJ2.mo (fun q hq => by unfold SB at hq; unfold SBrk; omega))
  refine lpE_intro (fun ⟨x1_q, x2_q, x3_q, x4_q, h_q, g_q⟩ => JJ (SBrk) h h_q ∧ x1 = x1_q ∧ x2 = x2_q ∧ True) (fun ⟨x1_q, x2_q, x3_q, x4_q, h_q, g_q⟩ => dif (h 18 3) x4_q) ?_ _ ⟨hJ, rfl, rfl, trivial⟩
  rintro ⟨x1_1, x2_1, x3_1, x4_1, h_1, g_1⟩ K1 ⟨hJ, rfl, rfl, -⟩ hK1
  unfold F_X1_weigh_13; dsimp only; unfold b_X1_weigh_13
  refine c_i (p_rowsJ hJ nSBrk gs_18) ?_
  rintro _ _ _ ⟨rfl, rfl, rfl⟩
  refine ⟨fun c => ?_, fun c => ?_⟩
  · skip
    refine c_v (p_X0_times (hC.jj hJ nSBrk) (by decide)) ?_
    rintro h_120 g_120 hJ2
    have hJ := hJ.tr (hJ2.mo (fun q hq => by unfold SB at hq; unfold SBrk; omega))
    exact hJ
  · skip
    refine c_i (p_atJ hC hJ nSBrk gs_18) ?_
    rintro _ _ _ ⟨rfl, rfl, rfl⟩
    refine c_i (p_X1_oddsOf (hC.jj hJ nSBrk) ) ?_
    rintro r_43 _ _ ⟨rfl, rfl⟩
    refine c_w (fun c c' => ?_) (fun c => ?_)
    · skip
      refine ⟨fun c => ?_, fun c => ?_⟩
      · skip
        refine c_i (p_atJ hC hJ nSBrk gs_18) ?_
        rintro _ _ _ ⟨rfl, rfl, rfl⟩
        refine ⟨fun c => ?_, fun c => ?_⟩
        · skip
          unfold j_X1_weigh_91
          rintro _ rfl
          refine ⟨fun c => ?_, fun c => ?_⟩
          · skip
            unfold j_X1_weigh_109
            rintro _ rfl
            exact hK1 _ ⟨hJ, rfl, rfl, trivial⟩ (dif_lt (by with_reducible assumption))
          · skip
            refine c_v (p_X0_times (hC.jj hJ nSBrk) (by decide)) ?_
            rintro h_104 g_104 hJ2
            have hJ := hJ.tr (hJ2.mo (fun q hq => by unfold SB at hq; unfold SBrk; omega))
            unfold j_X1_weigh_109
            rintro _ rfl
            exact hK1 _ ⟨hJ, rfl, rfl, trivial⟩ (dif_lt (by with_reducible assumption))
        · skip
          unfold j_X1_weigh_91
          rintro _ rfl
          refine ⟨fun c => ?_, fun c => ?_⟩
          · skip
            unfold j_X1_weigh_109
            rintro _ rfl
            exact hK1 _ ⟨hJ, rfl, rfl, trivial⟩ (dif_lt (by with_reducible assumption))
          · skip
            refine c_v (p_X0_times (hC.jj hJ nSBrk) (by decide)) ?_
            rintro h_104 g_104 hJ2
            have hJ := hJ.tr (hJ2.mo (fun q hq => by unfold SB at hq; unfold SBrk; omega))
            unfold j_X1_weigh_109
            rintro _ rfl
            exact hK1 _ ⟨hJ, rfl, rfl, trivial⟩ (dif_lt (by with_reducible assumption))
      · exact absI c
    · skip
      refine ⟨fun c => ?_, fun c => ?_⟩
      · exact absN c
      · skip
        exact hJ
theorem p_X1_fit {h : HI} {g : HL} (hC : CI h)    : w_X1_fit h g (fun r h' g' => JJ (SBrk) h h') := by
  unfold w_X1_fit
  have hJ : JJ (SBrk) h h := JJ.rf
  refine lpE_intro (fun ⟨x1_q, x2_q, h_q, g_q⟩ => JJ (SBrk) h h_q ∧ True) (fun ⟨x1_q, x2_q, h_q, g_q⟩ => dif (100 : Int32) x2_q) ?_ _ ⟨hJ, trivial⟩
  rintro ⟨x1_1, x2_1, h_1, g_1⟩ K1 ⟨hJ, -⟩ hK1
  unfold F_X1_fit_4; dsimp only; unfold b_X1_fit_4
  refine ⟨fun c => ?_, fun c => ?_⟩
  · skip
    exact hJ
  · skip
    refine c_z (p_X1_weigh (hC.jj hJ nSBrk) ) ?_
    rintro r_19 h_19 g_19 hJ2
    have hJ := hJ.tr (hJ2)
    refine ⟨fun c => ?_, fun c => ?_⟩
    · skip
      refine ⟨fun c => ?_, fun c => ?_⟩
      · skip
        unfold j_X1_fit_47
        refine c_v (p_X0_copy (hC.jj hJ nSBrk) (by decide)) ?_
        rintro h_57 g_57 hJ2
        have hJ := hJ.tr (hJ2.mo (fun q hq => by unfold SB at hq; unfold SBrk; omega))
        unfold j_X1_fit_60
        rintro _ rfl
        exact hK1 _ ⟨hJ, trivial⟩ (dif_lt (by with_reducible assumption))
      · skip
        refine c_z (p_X0_above (hC.jj hJ nSBrk) ) ?_
        rintro r_41 _ _ ⟨rfl, rfl⟩
        refine ⟨fun c => ?_, fun c => ?_⟩
        · skip
          unfold j_X1_fit_60
          rintro _ rfl
          exact hK1 _ ⟨hJ, trivial⟩ (dif_lt (by with_reducible assumption))
        · skip
          unfold j_X1_fit_47
          refine c_v (p_X0_copy (hC.jj hJ nSBrk) (by decide)) ?_
          rintro h_57 g_57 hJ2
          have hJ := hJ.tr (hJ2.mo (fun q hq => by unfold SB at hq; unfold SBrk; omega))
          unfold j_X1_fit_60
          rintro _ rfl
          exact hK1 _ ⟨hJ, trivial⟩ (dif_lt (by with_reducible assumption))
    · skip
      unfold j_X1_fit_60
      rintro _ rfl
      exact hK1 _ ⟨hJ, trivial⟩ (dif_lt (by with_reducible assumption))
theorem p_X1_reached {h : HI} {g : HL} (hC : CI h) {x1 : Int32}   : w_X1_reached x1 h g (fun r h' g' => h = h' ∧ g = g') := by
  unfold w_X1_reached
  refine c_i (p_at hC gs_2) ?_
  rintro _ _ _ ⟨rfl, rfl, rfl⟩
  refine lpE_intro (fun ⟨x2_q, x3_q, x4_q, h_q, g_q⟩ => h = h_q ∧ g = g_q ∧ True) (fun ⟨x2_q, x3_q, x4_q, h_q, g_q⟩ => dif (h 2 3) x4_q) ?_ _ ⟨rfl, rfl, trivial⟩
  rintro ⟨x2_1, x3_1, x4_1, h_1, g_1⟩ K1 ⟨rfl, rfl, -⟩ hK1
  unfold F_X1_reached_18; dsimp only; unfold b_X1_reached_18
  refine c_i p_rows ?_
  rintro _ _ _ ⟨rfl, rfl, rfl⟩
  refine ⟨fun c => ?_, fun c => ?_⟩
  · skip
    exact ⟨rfl, rfl⟩
  · skip
    refine ⟨fun c => ?_, fun c => ?_⟩
    · skip
      exact ⟨rfl, rfl⟩
    · skip
      refine lpE_intro (fun ⟨x2_q, x3_q, x4_q, x5_q, h_q, g_q⟩ => x2_1 = x3_q ∧ x4_1 = x4_q ∧ h = h_q ∧ g = g_q ∧ True) (fun ⟨x2_q, x3_q, x4_q, x5_q, h_q, g_q⟩ => dif (h 2 3) x5_q) ?_ _ ⟨rfl, rfl, rfl, rfl, trivial⟩
      rintro ⟨x2_2, x3_2, x4_2, x5_2, h_2, g_2⟩ K2 ⟨rfl, rfl, rfl, rfl, -⟩ hK2
      unfold F_X1_reached_43; dsimp only; unfold b_X1_reached_43
      refine c_i p_rows ?_
      rintro _ _ _ ⟨rfl, rfl, rfl⟩
      refine ⟨fun c => ?_, fun c => ?_⟩
      · skip
        rintro _ rfl
        exact hK1 _ ⟨rfl, rfl, trivial⟩ (dif_lt (by with_reducible assumption))
      · skip
        refine ⟨fun c => ?_, fun c => ?_⟩
        · skip
          unfold j_X1_reached_84
          rintro _ rfl
          exact hK2 _ ⟨rfl, rfl, rfl, rfl, trivial⟩ (dif_lt (by with_reducible assumption))
        · skip
          refine c_i (p_at hC gs_2) ?_
          rintro _ _ _ ⟨rfl, rfl, rfl⟩
          rintro _ rfl
          unfold j_X1_reached_84
          rintro _ rfl
          exact hK2 _ ⟨rfl, rfl, rfl, rfl, trivial⟩ (dif_lt (by with_reducible assumption))
theorem p_X4_joined {h : HI} {g : HL} (hC : CI h) {x0 : Int32} {x1 : Int64} {x3 : Int64}   : w_X4_joined x0 x1 x3 h g (fun r h' g' => h = h' ∧ g = g') := by
  unfold w_X4_joined
  refine ⟨fun c => ?_, fun c => ?_, fun c => ?_, fun c => ?_, fun c => ?_, fun c => ?_, fun c => ?_, fun c => ?_, fun c => ?_, fun c => ?_⟩
  · skip
    refine ⟨fun c => ?_, fun c => ?_⟩
    · skip
      exact ⟨rfl, rfl⟩
    · skip
      refine ⟨fun c => ?_, fun c => ?_⟩
      · skip
        exact ⟨rfl, rfl⟩
      · skip
        exact ⟨rfl, rfl⟩
  · skip
    exact ⟨rfl, rfl⟩
  · skip
    exact ⟨rfl, rfl⟩
  · skip
    exact ⟨rfl, rfl⟩
  · skip
    refine ⟨fun c => ?_, fun c => ?_⟩
    · skip
      refine and_have (by exact lgne (by with_reducible assumption)) (fun hv => ?_)
      exact ⟨rfl, rfl⟩
    · skip
      exact ⟨rfl, rfl⟩
  · skip
    refine ⟨fun c => ?_, fun c => ?_⟩
    · skip
      exact ⟨rfl, rfl⟩
    · skip
      exact ⟨rfl, rfl⟩
  · skip
    refine ⟨fun c => ?_, fun c => ?_⟩
    · skip
      exact ⟨rfl, rfl⟩
    · skip
      exact ⟨rfl, rfl⟩
  · skip
    refine ⟨fun c => ?_, fun c => ?_⟩
    · skip
      exact ⟨rfl, rfl⟩
    · skip
      exact ⟨rfl, rfl⟩
  · skip
    refine ⟨fun c => ?_, fun c => ?_⟩
    · skip
      unfold j_X4_joined_96
      exact ⟨rfl, rfl⟩
    · skip
      refine ⟨fun c => ?_, fun c => ?_⟩
      · skip
        exact ⟨rfl, rfl⟩
      · skip
        unfold j_X4_joined_96
        exact ⟨rfl, rfl⟩
  · intros
    exact ⟨rfl, rfl⟩
theorem p_X4_tells {h : HI} {g : HL} (hC : CI h) {x1 : Int32} {x2 : Int32} {x3 : Int32}   : w_X4_tells x1 x2 x3 h g (fun r h' g' => h = h') := by
  unfold w_X4_tells
  refine lpE_intro (fun ⟨x1_q, x2_q, x3_q, x4_q, x5_q, h_q, g_q⟩ => x1 = x1_q ∧ x2 = x2_q ∧ x3 = x3_q ∧ h = h_q ∧ ¬ x5_q < 0 ∧ P60 x4_q ∧ True) (fun ⟨x1_q, x2_q, x3_q, x4_q, x5_q, h_q, g_q⟩ => dif (60 : Int32) x5_q) ?_ _ ⟨rfl, rfl, rfl, rfl, nn0, p60_0, trivial⟩
  rintro ⟨x1_1, x2_1, x3_1, x4_1, x5_1, h_1, g_1⟩ K1 ⟨rfl, rfl, rfl, rfl, i1_0, i1_1, -⟩ hK1
  unfold F_X4_tells_6; dsimp only; unfold b_X4_tells_6
  refine ⟨fun c => ?_, fun c => ?_⟩
  · skip
    unfold j_X4_tells_243
    refine ⟨fun c => ?_, fun c => ?_⟩
    · skip
      exact rfl
    · skip
      refine and_have (by first | with_reducible assumption | exact v60b (by with_reducible assumption) (by with_reducible assumption) | exact v60b' (by with_reducible assumption) (by with_reducible assumption)) (fun hv => ?_)
      exact rfl
  · skip
    refine ⟨fun c => ?_, fun c => ?_⟩
    · skip
      unfold j_X4_tells_243
      refine ⟨fun c => ?_, fun c => ?_⟩
      · skip
        exact rfl
      · skip
        refine and_have (by first | with_reducible assumption | exact v60b (by with_reducible assumption) (by with_reducible assumption) | exact v60b' (by with_reducible assumption) (by with_reducible assumption)) (fun hv => ?_)
        exact rfl
    · skip
      refine and_have (by first | with_reducible assumption | exact vin (by with_reducible assumption) (by with_reducible assumption) (by decide) | exact vinc (by with_reducible assumption) (by with_reducible assumption) (by decide) | exact vinw (by with_reducible assumption) (by with_reducible assumption) (by decide) (by decide) | exact vinl (by with_reducible assumption) (by with_reducible assumption) (by decide) | exact v60a (by with_reducible assumption) (by with_reducible assumption) | exact v60b (by with_reducible assumption) (by with_reducible assumption) | exact v60b' (by with_reducible assumption) (by with_reducible assumption) | exact v60c (by with_reducible assumption) (by with_reducible assumption) | exact v60d (by with_reducible assumption) (by with_reducible assumption)) (fun hv => ?_)
      rintro _ rfl
      refine ⟨fun c => ?_, fun c => ?_⟩
      · skip
        unfold j_X4_tells_60
        refine ⟨fun c => ?_, fun c => ?_⟩
        · skip
          refine ⟨fun c => ?_, fun c => ?_⟩
          · skip
            refine ⟨fun c => ?_, fun c => ?_⟩
            · skip
              refine ⟨fun c => ?_, fun c => ?_⟩
              · skip
                unfold j_X4_tells_115
                refine and_have (by first | with_reducible assumption | exact vin (by with_reducible assumption) (by with_reducible assumption) (by decide) | exact vinc (by with_reducible assumption) (by with_reducible assumption) (by decide) | exact vinw (by with_reducible assumption) (by with_reducible assumption) (by decide) (by decide) | exact vinl (by with_reducible assumption) (by with_reducible assumption) (by decide) | exact v60a (by with_reducible assumption) (by with_reducible assumption) | exact v60b (by with_reducible assumption) (by with_reducible assumption) | exact v60b' (by with_reducible assumption) (by with_reducible assumption) | exact v60c (by with_reducible assumption) (by with_reducible assumption) | exact v60d (by with_reducible assumption) (by with_reducible assumption)) (fun hv => ?_)
                intro g_115 e_g_115
                rintro _ rfl
                unfold j_X4_tells_237
                rintro _ rfl
                exact hK1 _ ⟨rfl, rfl, rfl, rfl, (inc_nn (by with_reducible assumption) (by with_reducible assumption)), (p60u (by with_reducible assumption) (by with_reducible assumption)), trivial⟩ (dif_lt (by with_reducible assumption))
              · skip
                unfold j_X4_tells_115
                refine and_have (by first | with_reducible assumption | exact vin (by with_reducible assumption) (by with_reducible assumption) (by decide) | exact vinc (by with_reducible assumption) (by with_reducible assumption) (by decide) | exact vinw (by with_reducible assumption) (by with_reducible assumption) (by decide) (by decide) | exact vinl (by with_reducible assumption) (by with_reducible assumption) (by decide) | exact v60a (by with_reducible assumption) (by with_reducible assumption) | exact v60b (by with_reducible assumption) (by with_reducible assumption) | exact v60b' (by with_reducible assumption) (by with_reducible assumption) | exact v60c (by with_reducible assumption) (by with_reducible assumption) | exact v60d (by with_reducible assumption) (by with_reducible assumption)) (fun hv => ?_)
                intro g_115 e_g_115
                rintro _ rfl
                unfold j_X4_tells_237
                rintro _ rfl
                exact hK1 _ ⟨rfl, rfl, rfl, rfl, (inc_nn (by with_reducible assumption) (by with_reducible assumption)), (p60u (by with_reducible assumption) (by with_reducible assumption)), trivial⟩ (dif_lt (by with_reducible assumption))
            · skip
              unfold j_X4_tells_115
              refine and_have (by first | with_reducible assumption | exact vin (by with_reducible assumption) (by with_reducible assumption) (by decide) | exact vinc (by with_reducible assumption) (by with_reducible assumption) (by decide) | exact vinw (by with_reducible assumption) (by with_reducible assumption) (by decide) (by decide) | exact vinl (by with_reducible assumption) (by with_reducible assumption) (by decide) | exact v60a (by with_reducible assumption) (by with_reducible assumption) | exact v60b (by with_reducible assumption) (by with_reducible assumption) | exact v60b' (by with_reducible assumption) (by with_reducible assumption) | exact v60c (by with_reducible assumption) (by with_reducible assumption) | exact v60d (by with_reducible assumption) (by with_reducible assumption)) (fun hv => ?_)
              intro g_115 e_g_115
              rintro _ rfl
              unfold j_X4_tells_237
              rintro _ rfl
              exact hK1 _ ⟨rfl, rfl, rfl, rfl, (inc_nn (by with_reducible assumption) (by with_reducible assumption)), (p60u (by with_reducible assumption) (by with_reducible assumption)), trivial⟩ (dif_lt (by with_reducible assumption))
          · skip
            unfold j_X4_tells_115
            refine and_have (by first | with_reducible assumption | exact vin (by with_reducible assumption) (by with_reducible assumption) (by decide) | exact vinc (by with_reducible assumption) (by with_reducible assumption) (by decide) | exact vinw (by with_reducible assumption) (by with_reducible assumption) (by decide) (by decide) | exact vinl (by with_reducible assumption) (by with_reducible assumption) (by decide) | exact v60a (by with_reducible assumption) (by with_reducible assumption) | exact v60b (by with_reducible assumption) (by with_reducible assumption) | exact v60b' (by with_reducible assumption) (by with_reducible assumption) | exact v60c (by with_reducible assumption) (by with_reducible assumption) | exact v60d (by with_reducible assumption) (by with_reducible assumption)) (fun hv => ?_)
            intro g_115 e_g_115
            rintro _ rfl
            unfold j_X4_tells_237
            rintro _ rfl
            exact hK1 _ ⟨rfl, rfl, rfl, rfl, (inc_nn (by with_reducible assumption) (by with_reducible assumption)), (p60u (by with_reducible assumption) (by with_reducible assumption)), trivial⟩ (dif_lt (by with_reducible assumption))
        · skip
          exact rfl
      · skip
        refine ⟨fun c => ?_, fun c => ?_⟩
        · skip
          unfold j_X4_tells_60
          refine ⟨fun c => ?_, fun c => ?_⟩
          · skip
            refine ⟨fun c => ?_, fun c => ?_⟩
            · skip
              refine ⟨fun c => ?_, fun c => ?_⟩
              · skip
                refine ⟨fun c => ?_, fun c => ?_⟩
                · skip
                  unfold j_X4_tells_115
                  refine and_have (by first | with_reducible assumption | exact vin (by with_reducible assumption) (by with_reducible assumption) (by decide) | exact vinc (by with_reducible assumption) (by with_reducible assumption) (by decide) | exact vinw (by with_reducible assumption) (by with_reducible assumption) (by decide) (by decide) | exact vinl (by with_reducible assumption) (by with_reducible assumption) (by decide) | exact v60a (by with_reducible assumption) (by with_reducible assumption) | exact v60b (by with_reducible assumption) (by with_reducible assumption) | exact v60b' (by with_reducible assumption) (by with_reducible assumption) | exact v60c (by with_reducible assumption) (by with_reducible assumption) | exact v60d (by with_reducible assumption) (by with_reducible assumption)) (fun hv => ?_)
                  intro g_115 e_g_115
                  rintro _ rfl
                  unfold j_X4_tells_237
                  rintro _ rfl
                  exact hK1 _ ⟨rfl, rfl, rfl, rfl, (inc_nn (by with_reducible assumption) (by with_reducible assumption)), (p60u (by with_reducible assumption) (by with_reducible assumption)), trivial⟩ (dif_lt (by with_reducible assumption))
                · skip
                  unfold j_X4_tells_115
                  refine and_have (by first | with_reducible assumption | exact vin (by with_reducible assumption) (by with_reducible assumption) (by decide) | exact vinc (by with_reducible assumption) (by with_reducible assumption) (by decide) | exact vinw (by with_reducible assumption) (by with_reducible assumption) (by decide) (by decide) | exact vinl (by with_reducible assumption) (by with_reducible assumption) (by decide) | exact v60a (by with_reducible assumption) (by with_reducible assumption) | exact v60b (by with_reducible assumption) (by with_reducible assumption) | exact v60b' (by with_reducible assumption) (by with_reducible assumption) | exact v60c (by with_reducible assumption) (by with_reducible assumption) | exact v60d (by with_reducible assumption) (by with_reducible assumption)) (fun hv => ?_)
                  intro g_115 e_g_115
                  rintro _ rfl
                  unfold j_X4_tells_237
                  rintro _ rfl
                  exact hK1 _ ⟨rfl, rfl, rfl, rfl, (inc_nn (by with_reducible assumption) (by with_reducible assumption)), (p60u (by with_reducible assumption) (by with_reducible assumption)), trivial⟩ (dif_lt (by with_reducible assumption))
              · skip
                unfold j_X4_tells_115
                refine and_have (by first | with_reducible assumption | exact vin (by with_reducible assumption) (by with_reducible assumption) (by decide) | exact vinc (by with_reducible assumption) (by with_reducible assumption) (by decide) | exact vinw (by with_reducible assumption) (by with_reducible assumption) (by decide) (by decide) | exact vinl (by with_reducible assumption) (by with_reducible assumption) (by decide) | exact v60a (by with_reducible assumption) (by with_reducible assumption) | exact v60b (by with_reducible assumption) (by with_reducible assumption) | exact v60b' (by with_reducible assumption) (by with_reducible assumption) | exact v60c (by with_reducible assumption) (by with_reducible assumption) | exact v60d (by with_reducible assumption) (by with_reducible assumption)) (fun hv => ?_)
                intro g_115 e_g_115
                rintro _ rfl
                unfold j_X4_tells_237
                rintro _ rfl
                exact hK1 _ ⟨rfl, rfl, rfl, rfl, (inc_nn (by with_reducible assumption) (by with_reducible assumption)), (p60u (by with_reducible assumption) (by with_reducible assumption)), trivial⟩ (dif_lt (by with_reducible assumption))
            · skip
              unfold j_X4_tells_115
              refine and_have (by first | with_reducible assumption | exact vin (by with_reducible assumption) (by with_reducible assumption) (by decide) | exact vinc (by with_reducible assumption) (by with_reducible assumption) (by decide) | exact vinw (by with_reducible assumption) (by with_reducible assumption) (by decide) (by decide) | exact vinl (by with_reducible assumption) (by with_reducible assumption) (by decide) | exact v60a (by with_reducible assumption) (by with_reducible assumption) | exact v60b (by with_reducible assumption) (by with_reducible assumption) | exact v60b' (by with_reducible assumption) (by with_reducible assumption) | exact v60c (by with_reducible assumption) (by with_reducible assumption) | exact v60d (by with_reducible assumption) (by with_reducible assumption)) (fun hv => ?_)
              intro g_115 e_g_115
              rintro _ rfl
              unfold j_X4_tells_237
              rintro _ rfl
              exact hK1 _ ⟨rfl, rfl, rfl, rfl, (inc_nn (by with_reducible assumption) (by with_reducible assumption)), (p60u (by with_reducible assumption) (by with_reducible assumption)), trivial⟩ (dif_lt (by with_reducible assumption))
          · skip
            exact rfl
        · skip
          refine ⟨fun c => ?_, fun c => ?_⟩
          · skip
            unfold j_X4_tells_60
            refine ⟨fun c => ?_, fun c => ?_⟩
            · skip
              refine ⟨fun c => ?_, fun c => ?_⟩
              · skip
                refine ⟨fun c => ?_, fun c => ?_⟩
                · skip
                  refine ⟨fun c => ?_, fun c => ?_⟩
                  · skip
                    unfold j_X4_tells_115
                    refine and_have (by first | with_reducible assumption | exact vin (by with_reducible assumption) (by with_reducible assumption) (by decide) | exact vinc (by with_reducible assumption) (by with_reducible assumption) (by decide) | exact vinw (by with_reducible assumption) (by with_reducible assumption) (by decide) (by decide) | exact vinl (by with_reducible assumption) (by with_reducible assumption) (by decide) | exact v60a (by with_reducible assumption) (by with_reducible assumption) | exact v60b (by with_reducible assumption) (by with_reducible assumption) | exact v60b' (by with_reducible assumption) (by with_reducible assumption) | exact v60c (by with_reducible assumption) (by with_reducible assumption) | exact v60d (by with_reducible assumption) (by with_reducible assumption)) (fun hv => ?_)
                    intro g_115 e_g_115
                    rintro _ rfl
                    unfold j_X4_tells_237
                    rintro _ rfl
                    exact hK1 _ ⟨rfl, rfl, rfl, rfl, (inc_nn (by with_reducible assumption) (by with_reducible assumption)), (p60u (by with_reducible assumption) (by with_reducible assumption)), trivial⟩ (dif_lt (by with_reducible assumption))
                  · skip
                    unfold j_X4_tells_115
                    refine and_have (by first | with_reducible assumption | exact vin (by with_reducible assumption) (by with_reducible assumption) (by decide) | exact vinc (by with_reducible assumption) (by with_reducible assumption) (by decide) | exact vinw (by with_reducible assumption) (by with_reducible assumption) (by decide) (by decide) | exact vinl (by with_reducible assumption) (by with_reducible assumption) (by decide) | exact v60a (by with_reducible assumption) (by with_reducible assumption) | exact v60b (by with_reducible assumption) (by with_reducible assumption) | exact v60b' (by with_reducible assumption) (by with_reducible assumption) | exact v60c (by with_reducible assumption) (by with_reducible assumption) | exact v60d (by with_reducible assumption) (by with_reducible assumption)) (fun hv => ?_)
                    intro g_115 e_g_115
                    rintro _ rfl
                    unfold j_X4_tells_237
                    rintro _ rfl
                    exact hK1 _ ⟨rfl, rfl, rfl, rfl, (inc_nn (by with_reducible assumption) (by with_reducible assumption)), (p60u (by with_reducible assumption) (by with_reducible assumption)), trivial⟩ (dif_lt (by with_reducible assumption))
                · skip
                  unfold j_X4_tells_115
                  refine and_have (by first | with_reducible assumption | exact vin (by with_reducible assumption) (by with_reducible assumption) (by decide) | exact vinc (by with_reducible assumption) (by with_reducible assumption) (by decide) | exact vinw (by with_reducible assumption) (by with_reducible assumption) (by decide) (by decide) | exact vinl (by with_reducible assumption) (by with_reducible assumption) (by decide) | exact v60a (by with_reducible assumption) (by with_reducible assumption) | exact v60b (by with_reducible assumption) (by with_reducible assumption) | exact v60b' (by with_reducible assumption) (by with_reducible assumption) | exact v60c (by with_reducible assumption) (by with_reducible assumption) | exact v60d (by with_reducible assumption) (by with_reducible assumption)) (fun hv => ?_)
                  intro g_115 e_g_115
                  rintro _ rfl
                  unfold j_X4_tells_237
                  rintro _ rfl
                  exact hK1 _ ⟨rfl, rfl, rfl, rfl, (inc_nn (by with_reducible assumption) (by with_reducible assumption)), (p60u (by with_reducible assumption) (by with_reducible assumption)), trivial⟩ (dif_lt (by with_reducible assumption))
              · skip
                unfold j_X4_tells_115
                refine and_have (by first | with_reducible assumption | exact vin (by with_reducible assumption) (by with_reducible assumption) (by decide) | exact vinc (by with_reducible assumption) (by with_reducible assumption) (by decide) | exact vinw (by with_reducible assumption) (by with_reducible assumption) (by decide) (by decide) | exact vinl (by with_reducible assumption) (by with_reducible assumption) (by decide) | exact v60a (by with_reducible assumption) (by with_reducible assumption) | exact v60b (by with_reducible assumption) (by with_reducible assumption) | exact v60b' (by with_reducible assumption) (by with_reducible assumption) | exact v60c (by with_reducible assumption) (by with_reducible assumption) | exact v60d (by with_reducible assumption) (by with_reducible assumption)) (fun hv => ?_)
                intro g_115 e_g_115
                rintro _ rfl
                unfold j_X4_tells_237
                rintro _ rfl
                exact hK1 _ ⟨rfl, rfl, rfl, rfl, (inc_nn (by with_reducible assumption) (by with_reducible assumption)), (p60u (by with_reducible assumption) (by with_reducible assumption)), trivial⟩ (dif_lt (by with_reducible assumption))
            · skip
              exact rfl
          · skip
            refine ⟨fun c => ?_, fun c => ?_⟩
            · skip
              refine ⟨fun c => ?_, fun c => ?_⟩
              · skip
                unfold j_X4_tells_136
                refine ⟨fun c => ?_, fun c => ?_⟩
                · skip
                  refine ⟨fun c => ?_, fun c => ?_⟩
                  · skip
                    refine and_have (by first | with_reducible assumption | exact v60b (by with_reducible assumption) (by with_reducible assumption) | exact v60b' (by with_reducible assumption) (by with_reducible assumption)) (fun hv => ?_)
                    refine ⟨fun c => ?_, fun c => ?_⟩
                    · skip
                      unfold j_X4_tells_191
                      refine and_have (by first | with_reducible assumption | exact v60b (by with_reducible assumption) (by with_reducible assumption) | exact v60b' (by with_reducible assumption) (by with_reducible assumption)) (fun hv => ?_)
                      intro g_191 e_g_191
                      unfold j_X4_tells_237
                      rintro _ rfl
                      exact hK1 _ ⟨rfl, rfl, rfl, rfl, (inc_nn (by with_reducible assumption) (by with_reducible assumption)), (by with_reducible assumption), trivial⟩ (dif_lt (by with_reducible assumption))
                    · skip
                      unfold j_X4_tells_191
                      refine and_have (by first | with_reducible assumption | exact v60b (by with_reducible assumption) (by with_reducible assumption) | exact v60b' (by with_reducible assumption) (by with_reducible assumption)) (fun hv => ?_)
                      intro g_191 e_g_191
                      unfold j_X4_tells_237
                      rintro _ rfl
                      exact hK1 _ ⟨rfl, rfl, rfl, rfl, (inc_nn (by with_reducible assumption) (by with_reducible assumption)), (by with_reducible assumption), trivial⟩ (dif_lt (by with_reducible assumption))
                  · skip
                    refine and_have (by first | with_reducible assumption | exact v60b (by with_reducible assumption) (by with_reducible assumption) | exact v60b' (by with_reducible assumption) (by with_reducible assumption)) (fun hv => ?_)
                    unfold j_X4_tells_191
                    refine and_have (by first | with_reducible assumption | exact v60b (by with_reducible assumption) (by with_reducible assumption) | exact v60b' (by with_reducible assumption) (by with_reducible assumption)) (fun hv => ?_)
                    intro g_191 e_g_191
                    unfold j_X4_tells_237
                    rintro _ rfl
                    exact hK1 _ ⟨rfl, rfl, rfl, rfl, (inc_nn (by with_reducible assumption) (by with_reducible assumption)), (by with_reducible assumption), trivial⟩ (dif_lt (by with_reducible assumption))
                · skip
                  exact rfl
              · skip
                refine ⟨fun c => ?_, fun c => ?_⟩
                · skip
                  refine ⟨fun c => ?_, fun c => ?_⟩
                  · skip
                    rintro _ rfl
                    refine and_have (by first | with_reducible assumption | exact v60c (by with_reducible assumption) (by with_reducible assumption)) (fun hv => ?_)
                    refine and_have (by exact v60d (by with_reducible assumption) (by with_reducible assumption)) (fun hv => ?_)
                    refine c_l (p_X4_joined hC ) ?_
                    rintro r_233 _ _ ⟨rfl, rfl⟩
                    refine and_have (by first | with_reducible assumption | exact v60c (by with_reducible assumption) (by with_reducible assumption)) (fun hv => ?_)
                    intro g_236 e_g_236
                    unfold j_X4_tells_237
                    rintro _ rfl
                    exact hK1 _ ⟨rfl, rfl, rfl, rfl, (inc_nn (by with_reducible assumption) (by with_reducible assumption)), (p60d (by with_reducible assumption) (by with_reducible assumption)), trivial⟩ (dif_lt (by with_reducible assumption))
                  · skip
                    exact rfl
                · skip
                  unfold j_X4_tells_136
                  refine ⟨fun c => ?_, fun c => ?_⟩
                  · skip
                    refine ⟨fun c => ?_, fun c => ?_⟩
                    · skip
                      refine and_have (by first | with_reducible assumption | exact v60b (by with_reducible assumption) (by with_reducible assumption) | exact v60b' (by with_reducible assumption) (by with_reducible assumption)) (fun hv => ?_)
                      refine ⟨fun c => ?_, fun c => ?_⟩
                      · skip
                        unfold j_X4_tells_191
                        refine and_have (by first | with_reducible assumption | exact v60b (by with_reducible assumption) (by with_reducible assumption) | exact v60b' (by with_reducible assumption) (by with_reducible assumption)) (fun hv => ?_)
                        intro g_191 e_g_191
                        unfold j_X4_tells_237
                        rintro _ rfl
                        exact hK1 _ ⟨rfl, rfl, rfl, rfl, (inc_nn (by with_reducible assumption) (by with_reducible assumption)), (by with_reducible assumption), trivial⟩ (dif_lt (by with_reducible assumption))
                      · skip
                        unfold j_X4_tells_191
                        refine and_have (by first | with_reducible assumption | exact v60b (by with_reducible assumption) (by with_reducible assumption) | exact v60b' (by with_reducible assumption) (by with_reducible assumption)) (fun hv => ?_)
                        intro g_191 e_g_191
                        unfold j_X4_tells_237
                        rintro _ rfl
                        exact hK1 _ ⟨rfl, rfl, rfl, rfl, (inc_nn (by with_reducible assumption) (by with_reducible assumption)), (by with_reducible assumption), trivial⟩ (dif_lt (by with_reducible assumption))
                    · skip
                      refine and_have (by first | with_reducible assumption | exact v60b (by with_reducible assumption) (by with_reducible assumption) | exact v60b' (by with_reducible assumption) (by with_reducible assumption)) (fun hv => ?_)
                      unfold j_X4_tells_191
                      refine and_have (by first | with_reducible assumption | exact v60b (by with_reducible assumption) (by with_reducible assumption) | exact v60b' (by with_reducible assumption) (by with_reducible assumption)) (fun hv => ?_)
                      intro g_191 e_g_191
                      unfold j_X4_tells_237
                      rintro _ rfl
                      exact hK1 _ ⟨rfl, rfl, rfl, rfl, (inc_nn (by with_reducible assumption) (by with_reducible assumption)), (by with_reducible assumption), trivial⟩ (dif_lt (by with_reducible assumption))
                  · skip
                    exact rfl
            · skip
              unfold j_X4_tells_60
              refine ⟨fun c => ?_, fun c => ?_⟩
              · skip
                refine ⟨fun c => ?_, fun c => ?_⟩
                · skip
                  refine ⟨fun c => ?_, fun c => ?_⟩
                  · skip
                    refine ⟨fun c => ?_, fun c => ?_⟩
                    · skip
                      unfold j_X4_tells_115
                      refine and_have (by first | with_reducible assumption | exact vin (by with_reducible assumption) (by with_reducible assumption) (by decide) | exact vinc (by with_reducible assumption) (by with_reducible assumption) (by decide) | exact vinw (by with_reducible assumption) (by with_reducible assumption) (by decide) (by decide) | exact vinl (by with_reducible assumption) (by with_reducible assumption) (by decide) | exact v60a (by with_reducible assumption) (by with_reducible assumption) | exact v60b (by with_reducible assumption) (by with_reducible assumption) | exact v60b' (by with_reducible assumption) (by with_reducible assumption) | exact v60c (by with_reducible assumption) (by with_reducible assumption) | exact v60d (by with_reducible assumption) (by with_reducible assumption)) (fun hv => ?_)
                      intro g_115 e_g_115
                      rintro _ rfl
                      unfold j_X4_tells_237
                      rintro _ rfl
                      exact hK1 _ ⟨rfl, rfl, rfl, rfl, (inc_nn (by with_reducible assumption) (by with_reducible assumption)), (p60u (by with_reducible assumption) (by with_reducible assumption)), trivial⟩ (dif_lt (by with_reducible assumption))
                    · skip
                      unfold j_X4_tells_115
                      refine and_have (by first | with_reducible assumption | exact vin (by with_reducible assumption) (by with_reducible assumption) (by decide) | exact vinc (by with_reducible assumption) (by with_reducible assumption) (by decide) | exact vinw (by with_reducible assumption) (by with_reducible assumption) (by decide) (by decide) | exact vinl (by with_reducible assumption) (by with_reducible assumption) (by decide) | exact v60a (by with_reducible assumption) (by with_reducible assumption) | exact v60b (by with_reducible assumption) (by with_reducible assumption) | exact v60b' (by with_reducible assumption) (by with_reducible assumption) | exact v60c (by with_reducible assumption) (by with_reducible assumption) | exact v60d (by with_reducible assumption) (by with_reducible assumption)) (fun hv => ?_)
                      intro g_115 e_g_115
                      rintro _ rfl
                      unfold j_X4_tells_237
                      rintro _ rfl
                      exact hK1 _ ⟨rfl, rfl, rfl, rfl, (inc_nn (by with_reducible assumption) (by with_reducible assumption)), (p60u (by with_reducible assumption) (by with_reducible assumption)), trivial⟩ (dif_lt (by with_reducible assumption))
                  · skip
                    unfold j_X4_tells_115
                    refine and_have (by first | with_reducible assumption | exact vin (by with_reducible assumption) (by with_reducible assumption) (by decide) | exact vinc (by with_reducible assumption) (by with_reducible assumption) (by decide) | exact vinw (by with_reducible assumption) (by with_reducible assumption) (by decide) (by decide) | exact vinl (by with_reducible assumption) (by with_reducible assumption) (by decide) | exact v60a (by with_reducible assumption) (by with_reducible assumption) | exact v60b (by with_reducible assumption) (by with_reducible assumption) | exact v60b' (by with_reducible assumption) (by with_reducible assumption) | exact v60c (by with_reducible assumption) (by with_reducible assumption) | exact v60d (by with_reducible assumption) (by with_reducible assumption)) (fun hv => ?_)
                    intro g_115 e_g_115
                    rintro _ rfl
                    unfold j_X4_tells_237
                    rintro _ rfl
                    exact hK1 _ ⟨rfl, rfl, rfl, rfl, (inc_nn (by with_reducible assumption) (by with_reducible assumption)), (p60u (by with_reducible assumption) (by with_reducible assumption)), trivial⟩ (dif_lt (by with_reducible assumption))
                · skip
                  unfold j_X4_tells_115
                  refine and_have (by first | with_reducible assumption | exact vin (by with_reducible assumption) (by with_reducible assumption) (by decide) | exact vinc (by with_reducible assumption) (by with_reducible assumption) (by decide) | exact vinw (by with_reducible assumption) (by with_reducible assumption) (by decide) (by decide) | exact vinl (by with_reducible assumption) (by with_reducible assumption) (by decide) | exact v60a (by with_reducible assumption) (by with_reducible assumption) | exact v60b (by with_reducible assumption) (by with_reducible assumption) | exact v60b' (by with_reducible assumption) (by with_reducible assumption) | exact v60c (by with_reducible assumption) (by with_reducible assumption) | exact v60d (by with_reducible assumption) (by with_reducible assumption)) (fun hv => ?_)
                  intro g_115 e_g_115
                  rintro _ rfl
                  unfold j_X4_tells_237
                  rintro _ rfl
                  exact hK1 _ ⟨rfl, rfl, rfl, rfl, (inc_nn (by with_reducible assumption) (by with_reducible assumption)), (p60u (by with_reducible assumption) (by with_reducible assumption)), trivial⟩ (dif_lt (by with_reducible assumption))
              · skip
                exact rfl
theorem p_X4_wornOf {h : HI} {g : HL} (hC : CI h) {x1 : Int32} {x2 : Int32}   : w_X4_wornOf x1 x2 h g (fun r h' g' => h = h') := by
  unfold w_X4_wornOf
  refine c_i (p_at hC gs_2) ?_
  rintro _ _ _ ⟨rfl, rfl, rfl⟩
  rintro _ rfl
  refine ⟨fun c => ?_, fun c => ?_⟩
  · skip
    refine c_i (p_at hC gs_2) ?_
    rintro _ _ _ ⟨rfl, rfl, rfl⟩
    refine c_i (p_at hC gs_2) ?_
    rintro _ _ _ ⟨rfl, rfl, rfl⟩
    refine c_l (p_X4_tells hC ) ?_
    rintro r_55 _ g_55 rfl
    exact rfl
  · skip
    exact rfl
theorem p_X4_flaw {h : HI} {g : HL} (hC : CI h)    : w_X4_flaw h g (fun r h' g' => h = h' ∧ g = g') := by
  unfold w_X4_flaw
  exact ⟨rfl, rfl⟩
