theorem p_X10_fault {h : HI} {g : HL} (hC : CI h)    : w_X10_fault h g (fun r h' g' => JJ (SNo) h h') := by
  unfold w_X10_fault
  have hJ : JJ (SNo) h h := JJ.rf
  refine c_i (p_X4_flaw (hC.jj hJ nSNo) ) ?_
  rintro r_4 _ _ ⟨rfl, rfl⟩
  exact hJ
theorem p_X10_worn {h : HI} {g : HL} (hC : CI h) {x1 : Int32} {x2 : Int32}   : w_X10_worn x1 x2 h g (fun r h' g' => JJ (SNo) h h') := by
  unfold w_X10_worn
  have hJ : JJ (SNo) h h := JJ.rf
  refine c_h (fun c c' => ?_) (fun c => ?_)
  · skip
    refine ⟨fun c => ?_, fun c => ?_⟩
    · exact absI c
    · skip
      refine c_w (fun c c' => ?_) (fun c => ?_)
      · skip
        refine ⟨fun c => ?_, fun c => ?_⟩
        · skip
          refine c_i (p_X4_wornOf (hC.jj hJ nSNo) ) ?_
          rintro r_33 _ g_33 rfl
          exact hJ
        · exact absI c
      · skip
        refine ⟨fun c => ?_, fun c => ?_⟩
        · exact absN c
        · skip
          exact hJ
  · skip
    refine ⟨fun c => ?_, fun c => ?_⟩
    · skip
      exact hJ
    · exact absN c
theorem p_X10_first {h : HI} {g : HL} (hC : CI h) {x1 : Int32} {x2 : Int32}   : w_X10_first x1 x2 h g (fun r h' g' => JJ (SSz) h h') := by
  unfold w_X10_first
  have hJ : JJ (SSz) h h := JJ.rf
  refine c_h (fun c c' => ?_) (fun c => ?_)
  · skip
    refine ⟨fun c => ?_, fun c => ?_⟩
    · exact absI c
    · skip
      refine c_w (fun c c' => ?_) (fun c => ?_)
      · skip
        refine ⟨fun c => ?_, fun c => ?_⟩
        · skip
          refine c_v (p_X7_find (hC.jj hJ nSSz) ) ?_
          rintro h_31 g_31 hJ2
          have hJ := hJ.tr (hJ2.mo (fun q hq => by unfold SSz at hq; unfold SSz; omega))
          refine c_i (p_X7_answer (hC.jj hJ nSSz) ) ?_
          rintro r_39 _ _ ⟨rfl, rfl⟩
          exact hJ
        · exact absI c
      · skip
        refine ⟨fun c => ?_, fun c => ?_⟩
        · exact absN c
        · skip
          exact hJ
  · skip
    refine ⟨fun c => ?_, fun c => ?_⟩
    · skip
      exact hJ
    · exact absN c
theorem p_X10_quarrel {h : HI} {g : HL} (hC : CI h) {x1 : Int32} {x2 : Int32}   : w_X10_quarrel x1 x2 h g (fun r h' g' => JJ (SSz) h h') := by
  unfold w_X10_quarrel
  have hJ : JJ (SSz) h h := JJ.rf
  refine c_h (fun c c' => ?_) (fun c => ?_)
  · skip
    refine ⟨fun c => ?_, fun c => ?_⟩
    · exact absI c
    · skip
      refine ⟨fun c => ?_, fun c => ?_⟩
      · skip
        exact hJ
      · skip
        refine ⟨fun c => ?_, fun c => ?_⟩
        · skip
          refine c_v (p_X7_find (hC.jj hJ nSSz) ) ?_
          rintro h_34 g_34 hJ2
          have hJ := hJ.tr (hJ2.mo (fun q hq => by unfold SSz at hq; unfold SSz; omega))
          refine c_i (p_X7_leastDisputed (hC.jj hJ nSSz) ) ?_
          rintro r_41 _ _ ⟨rfl, rfl⟩
          refine ⟨fun c => ?_, fun c => ?_⟩
          · skip
            refine ⟨fun c => ?_, fun c => ?_⟩
            · skip
              refine c_i (p_X7_objector (hC.jj hJ nSSz) ) ?_
              rintro r_73 _ _ ⟨rfl, rfl⟩
              exact hJ
            · skip
              refine c_i (p_X7_against (hC.jj hJ nSSz) ) ?_
              rintro r_63 _ _ ⟨rfl, rfl⟩
              exact hJ
          · skip
            exact hJ
        · skip
          exact hJ
  · skip
    refine ⟨fun c => ?_, fun c => ?_⟩
    · skip
      exact hJ
    · exact absN c
theorem p_X10_sum {h : HI} {g : HL} (hC : CI h) {x1 : Int32} {x2 : Int32} {x3 : Int32}   : w_X10_sum x1 x2 x3 h g (fun r h' g' => JJ (SFit) h h') := by
  unfold w_X10_sum
  have hJ : JJ (SFit) h h := JJ.rf
  refine c_h (fun c c' => ?_) (fun c => ?_)
  · skip
    refine ⟨fun c => ?_, fun c => ?_⟩
    · exact absI c
    · skip
      refine c_w (fun c c' => ?_) (fun c => ?_)
      · skip
        refine ⟨fun c => ?_, fun c => ?_⟩
        · exact absI c
        · skip
          refine c_w (fun c c' => ?_) (fun c => ?_)
          · skip
            refine ⟨fun c => ?_, fun c => ?_⟩
            · skip
              refine c_v (p_X2_take (hC.jj hJ nSFit) ) ?_
              rintro h_43 g_43 hJ2
              have hJ := hJ.tr (hJ2.mo (fun q hq => by unfold SFit at hq; unfold SFit; omega))
              refine ⟨fun c => ?_, fun c => ?_⟩
              · skip
                refine ⟨fun c => ?_, fun c => ?_⟩
                · skip
                  refine c_v (p_X2_addUp (hC.jj hJ nSFit) ) ?_
                  rintro h_86 g_86 hJ2
                  have hJ := hJ.tr (hJ2.mo (fun q hq => by unfold SFit at hq; unfold SFit; omega))
                  refine ⟨fun c => ?_, fun c => ?_⟩
                  · skip
                    exact hJ
                  · skip
                    exact hJ
                · skip
                  exact hJ
              · skip
                refine c_z (p_X2_holdIn (hC.jj hJ nSFit) ) ?_
                rintro r_56 h_56 g_56 hJ2
                have hJ := hJ.tr (hJ2.mo (fun q hq => by unfold SFit at hq; unfold SFit; omega))
                refine ⟨fun c => ?_, fun c => ?_⟩
                · skip
                  exact hJ
                · skip
                  exact hJ
            · exact absI c
          · skip
            refine ⟨fun c => ?_, fun c => ?_⟩
            · exact absN c
            · skip
              exact hJ
      · skip
        refine ⟨fun c => ?_, fun c => ?_⟩
        · skip
          exact hJ
        · exact absN c
  · skip
    refine ⟨fun c => ?_, fun c => ?_⟩
    · skip
      exact hJ
    · exact absN c
theorem p_X10_stands {h : HI} {g : HL} (hC : CI h) {x1 : Int32} {x2 : Int32} {x3 : Int32}   : w_X10_stands x1 x2 x3 h g (fun r h' g' => JJ (SFit) h h') := by
  unfold w_X10_stands
  have hJ : JJ (SFit) h h := JJ.rf
  refine c_h (fun c c' => ?_) (fun c => ?_)
  · skip
    refine ⟨fun c => ?_, fun c => ?_⟩
    · exact absI c
    · skip
      refine c_h (fun c c' => ?_) (fun c => ?_)
      · skip
        refine ⟨fun c => ?_, fun c => ?_⟩
        · exact absI c
        · skip
          refine ⟨fun c => ?_, fun c => ?_⟩
          · skip
            exact hJ
          · skip
            refine c_w (fun c c' => ?_) (fun c => ?_)
            · skip
              refine ⟨fun c => ?_, fun c => ?_⟩
              · skip
                refine lpE_intro (fun ⟨x1_q, x2_q, x3_q, x4_q, h_q, g_q⟩ => JJ (SFit) h h_q ∧ x1 = x1_q ∧ x2 = x2_q ∧ x3 = x3_q ∧ True) (fun ⟨x1_q, x2_q, x3_q, x4_q, h_q, g_q⟩ => dif (h 8 3) x4_q) ?_ _ ⟨hJ, rfl, rfl, rfl, trivial⟩
                rintro ⟨x1_1, x2_1, x3_1, x4_1, h_1, g_1⟩ K1 ⟨hJ, rfl, rfl, rfl, -⟩ hK1
                unfold F_X10_stands_49; dsimp only; unfold b_X10_stands_49
                refine c_i (p_rowsJ hJ nSFit gs_8) ?_
                rintro _ _ _ ⟨rfl, rfl, rfl⟩
                refine ⟨fun c => ?_, fun c => ?_⟩
                · skip
                  exact hJ
                · skip
                  refine c_z (p_X6_isIn (hC.jj hJ nSFit) ) ?_
                  rintro r_71 _ _ ⟨rfl, rfl⟩
                  refine ⟨fun c => ?_, fun c => ?_⟩
                  · skip
                    refine c_z (p_X6_isIn (hC.jj hJ nSFit) ) ?_
                    rintro r_87 _ _ ⟨rfl, rfl⟩
                    refine ⟨fun c => ?_, fun c => ?_⟩
                    · skip
                      refine c_v (p_X2_take (hC.jj hJ nSFit) ) ?_
                      rintro h_103 g_103 hJ2
                      have hJ := hJ.tr (hJ2.mo (fun q hq => by unfold SFit at hq; unfold SFit; omega))
                      refine c_z (p_X2_holdIn (hC.jj hJ nSFit) ) ?_
                      rintro r_111 h_111 g_111 hJ2
                      have hJ := hJ.tr (hJ2.mo (fun q hq => by unfold SFit at hq; unfold SFit; omega))
                      refine ⟨fun c => ?_, fun c => ?_⟩
                      · skip
                        unfold j_X10_stands_119
                        rintro _ rfl
                        exact hK1 _ ⟨hJ, rfl, rfl, rfl, trivial⟩ (dif_lt (by with_reducible assumption))
                      · skip
                        exact hJ
                    · skip
                      exact hJ
                  · skip
                    unfold j_X10_stands_119
                    rintro _ rfl
                    exact hK1 _ ⟨hJ, rfl, rfl, rfl, trivial⟩ (dif_lt (by with_reducible assumption))
              · exact absI c
            · skip
              refine ⟨fun c => ?_, fun c => ?_⟩
              · exact absN c
              · skip
                exact hJ
      · skip
        refine ⟨fun c => ?_, fun c => ?_⟩
        · skip
          exact hJ
        · exact absN c
  · skip
    refine ⟨fun c => ?_, fun c => ?_⟩
    · skip
      exact hJ
    · exact absN c
theorem p_X10_life {h : HI} {g : HL} (hC : CI h) {x1 : Int32} {x2 : Int32}   : w_X10_life x1 x2 h g (fun r h' g' => JJ (SFit) h h') := by
  unfold w_X10_life
  have hJ : JJ (SFit) h h := JJ.rf
  refine c_h (fun c c' => ?_) (fun c => ?_)
  · skip
    refine ⟨fun c => ?_, fun c => ?_⟩
    · exact absI c
    · skip
      refine c_w (fun c c' => ?_) (fun c => ?_)
      · skip
        refine ⟨fun c => ?_, fun c => ?_⟩
        · skip
          refine c_v (p_X2_take (hC.jj hJ nSFit) ) ?_
          rintro h_34 g_34 hJ2
          have hJ := hJ.tr (hJ2.mo (fun q hq => by unfold SFit at hq; unfold SFit; omega))
          refine lpE_intro (fun ⟨x3_q, x4_q, h_q, g_q⟩ => JJ (SFit) h h_q ∧ True) (fun ⟨x3_q, x4_q, h_q, g_q⟩ => dil (99 : Int32) x4_q) ?_ _ ⟨hJ, trivial⟩
          rintro ⟨x3_1, x4_1, h_1, g_1⟩ K1 ⟨hJ, -⟩ hK1
          unfold F_X10_life_42; dsimp only; unfold b_X10_life_42
          refine ⟨fun c => ?_, fun c => ?_⟩
          · skip
            exact hJ
          · skip
            refine c_z (p_X2_holdIn (hC.jj hJ nSFit) ) ?_
            rintro r_55 h_55 g_55 hJ2
            have hJ := hJ.tr (hJ2.mo (fun q hq => by unfold SFit at hq; unfold SFit; omega))
            refine ⟨fun c => ?_, fun c => ?_⟩
            · skip
              exact hJ
            · skip
              rintro _ rfl
              rintro _ rfl
              exact hK1 _ ⟨hJ, trivial⟩ (dil_lt (by with_reducible assumption) (by decide))
        · exact absI c
      · skip
        refine ⟨fun c => ?_, fun c => ?_⟩
        · exact absN c
        · skip
          exact hJ
  · skip
    refine ⟨fun c => ?_, fun c => ?_⟩
    · skip
      exact hJ
    · exact absN c
theorem p_X10_taking {h : HI} {g : HL} (hC : CI h) {x1 : Int32}   : w_X10_taking x1 h g (fun r h' g' => JJ (SGiv) h h') := by
  unfold w_X10_taking
  have hJ : JJ (SGiv) h h := JJ.rf
  refine ⟨fun c => ?_, fun c => ?_⟩
  · skip
    unfold j_X10_taking_22
    refine c_v (p_X3_find (hC.jj hJ nSGiv) ) ?_
    rintro h_26 g_26 hJ2
    have hJ := hJ.tr (hJ2.mo (fun q hq => by unfold SGiv at hq; unfold SGiv; omega))
    refine ⟨fun c => ?_, fun c => ?_⟩
    · skip
      refine c_i (p_X3_spareOf (hC.jj hJ nSGiv) ) ?_
      rintro r_49 _ _ ⟨rfl, rfl⟩
      exact hJ
    · skip
      refine c_i (p_X3_mostYears (hC.jj hJ nSGiv) ) ?_
      rintro r_38 _ _ ⟨rfl, rfl⟩
      exact hJ
  · skip
    refine c_h (fun c c' => ?_) (fun c => ?_)
    · skip
      refine ⟨fun c => ?_, fun c => ?_⟩
      · skip
        unfold j_X10_taking_22
        refine c_v (p_X3_find (hC.jj hJ nSGiv) ) ?_
        rintro h_26 g_26 hJ2
        have hJ := hJ.tr (hJ2.mo (fun q hq => by unfold SGiv at hq; unfold SGiv; omega))
        refine ⟨fun c => ?_, fun c => ?_⟩
        · skip
          refine c_i (p_X3_spareOf (hC.jj hJ nSGiv) ) ?_
          rintro r_49 _ _ ⟨rfl, rfl⟩
          exact hJ
        · skip
          refine c_i (p_X3_mostYears (hC.jj hJ nSGiv) ) ?_
          rintro r_38 _ _ ⟨rfl, rfl⟩
          exact hJ
      · exact absI c
    · skip
      refine ⟨fun c => ?_, fun c => ?_⟩
      · exact absN c
      · skip
        exact hJ
theorem p_X10_half {h : HI} {g : HL} (hC : CI h) {x1 : Int32}   : w_X10_half x1 h g (fun r h' g' => JJ (SBrk) h h') := by
  unfold w_X10_half
  have hJ : JJ (SBrk) h h := JJ.rf
  refine c_h (fun c c' => ?_) (fun c => ?_)
  · skip
    refine ⟨fun c => ?_, fun c => ?_⟩
    · skip
      refine c_i (p_X1_halved (hC.jj hJ nSBrk) ) ?_
      rintro r_22 h_22 g_22 hJ2
      have hJ := hJ.tr (hJ2.mo (fun q hq => by unfold SBrk at hq; unfold SBrk; omega))
      exact hJ
    · exact absI c
  · skip
    refine ⟨fun c => ?_, fun c => ?_⟩
    · exact absN c
    · skip
      exact hJ
theorem p_X10_limbs {h : HI} {g : HL} (hC : CI h) {x1 : Int32}   : w_X10_limbs x1 h g (fun r h' g' => JJ (SNo) h h') := by
  unfold w_X10_limbs
  have hJ : JJ (SNo) h h := JJ.rf
  refine c_w (fun c c' => ?_) (fun c => ?_)
  · skip
    refine ⟨fun c => ?_, fun c => ?_⟩
    · skip
      refine c_n (p_X1_side (hC.jj hJ nSNo) ) ?_
      rintro r_17 _ _ ⟨rfl, rfl, hp⟩
      refine and_have (by first | with_reducible assumption | decide) (fun hv => ?_)
      refine c_i (p_X0_rows (hC.jj hJ nSNo) ) ?_
      rintro r_20 _ _ ⟨rfl, rfl⟩
      exact hJ
    · exact absI c
  · skip
    refine ⟨fun c => ?_, fun c => ?_⟩
    · exact absN c
    · skip
      exact hJ
theorem p_X10_limb {h : HI} {g : HL} (hC : CI h) {x1 : Int32} {x2 : Int32}   : w_X10_limb x1 x2 h g (fun r h' g' => JJ (SNo) h h') := by
  unfold w_X10_limb
  have hJ : JJ (SNo) h h := JJ.rf
  refine c_w (fun c c' => ?_) (fun c => ?_)
  · skip
    refine ⟨fun c => ?_, fun c => ?_⟩
    · exact absI c
    · skip
      refine ⟨fun c => ?_, fun c => ?_⟩
      · skip
        refine c_n (p_X1_side (hC.jj hJ nSNo) ) ?_
        rintro r_21 _ _ ⟨rfl, rfl, hp⟩
        refine and_have (by first | with_reducible assumption | decide) (fun hv => ?_)
        refine c_i (p_X0_at (hC.jj hJ nSNo) ) ?_
        rintro r_25 _ _ ⟨rfl, rfl⟩
        exact hJ
      · skip
        exact hJ
  · skip
    refine ⟨fun c => ?_, fun c => ?_⟩
    · skip
      exact hJ
    · exact absN c
theorem p_X10_fitted {h : HI} {g : HL} (hC : CI h)    : w_X10_fitted h g (fun r h' g' => JJ (SBrk) h h') := by
  unfold w_X10_fitted
  have hJ : JJ (SBrk) h h := JJ.rf
  refine c_i (p_X1_fit (hC.jj hJ nSBrk) ) ?_
  rintro r_4 h_4 g_4 hJ2
  have hJ := hJ.tr (hJ2.mo (fun q hq => by unfold SBrk at hq; unfold SBrk; omega))
  exact hJ
theorem p_X10_plan {h : HI} {g : HL} (hC : CI h) {x1 : Int32} {x2 : Int32}   : w_X10_plan x1 x2 h g (fun r h' g' => JJ (SPln) h h') := by
  unfold w_X10_plan
  have hJ : JJ (SPln) h h := JJ.rf
  refine c_w (fun c c' => ?_) (fun c => ?_)
  · skip
    refine ⟨fun c => ?_, fun c => ?_⟩
    · exact absI c
    · skip
      refine c_w (fun c c' => ?_) (fun c => ?_)
      · skip
        refine ⟨fun c => ?_, fun c => ?_⟩
        · skip
          refine c_v (p_X5_find (hC.jj hJ nSPln) ) ?_
          rintro h_29 g_29 ⟨hJ2, hP⟩
          have hJ := hJ.tr (hJ2.mo (fun q hq => by unfold SPln at hq; unfold SPln; omega))
          refine ⟨fun c => ?_, fun c => ?_⟩
          · skip
            refine c_i (p_X5_lessonIn (hC.jj hJ nSPln) hP) ?_
            rintro r_50 _ _ ⟨rfl, rfl⟩
            refine ⟨fun c => ?_, fun c => ?_⟩
            · skip
              exact hJ
            · skip
              exact hJ
          · skip
            refine c_i (p_X5_mostRuns (hC.jj hJ nSPln) ) ?_
            rintro r_41 _ _ ⟨rfl, rfl⟩
            exact hJ
        · exact absI c
      · skip
        refine ⟨fun c => ?_, fun c => ?_⟩
        · exact absN c
        · skip
          exact hJ
  · skip
    refine ⟨fun c => ?_, fun c => ?_⟩
    · skip
      exact hJ
    · exact absN c
theorem p_X10_count {h : HI} {g : HL} (hC : CI h) {x1 : Int32}   : w_X10_count x1 h g (fun r h' g' => h = h' ∧ g = g') := by
  unfold w_X10_count
  refine ⟨fun c => ?_, fun c => ?_, fun c => ?_, fun c => ?_, fun c => ?_, fun c => ?_, fun c => ?_, fun c => ?_, fun c => ?_, fun c => ?_, fun c => ?_⟩
  · skip
    refine c_i p_rows ?_
    rintro _ _ _ ⟨rfl, rfl, rfl⟩
    exact ⟨rfl, rfl⟩
  · skip
    refine c_i p_rows ?_
    rintro _ _ _ ⟨rfl, rfl, rfl⟩
    exact ⟨rfl, rfl⟩
  · skip
    refine c_i (p_X6_deniedSayings hC ) ?_
    rintro r_82 _ _ ⟨rfl, rfl⟩
    exact ⟨rfl, rfl⟩
  · skip
    refine c_i p_rows ?_
    rintro _ _ _ ⟨rfl, rfl, rfl⟩
    exact ⟨rfl, rfl⟩
  · skip
    refine c_i p_rows ?_
    rintro _ _ _ ⟨rfl, rfl, rfl⟩
    exact ⟨rfl, rfl⟩
  · skip
    refine c_i p_rows ?_
    rintro _ _ _ ⟨rfl, rfl, rfl⟩
    exact ⟨rfl, rfl⟩
  · skip
    refine c_i p_rows ?_
    rintro _ _ _ ⟨rfl, rfl, rfl⟩
    exact ⟨rfl, rfl⟩
  · skip
    refine c_i p_rows ?_
    rintro _ _ _ ⟨rfl, rfl, rfl⟩
    exact ⟨rfl, rfl⟩
  · skip
    refine c_i p_rows ?_
    rintro _ _ _ ⟨rfl, rfl, rfl⟩
    exact ⟨rfl, rfl⟩
  · skip
    refine c_i p_rows ?_
    rintro _ _ _ ⟨rfl, rfl, rfl⟩
    exact ⟨rfl, rfl⟩
  · intros
    exact ⟨rfl, rfl⟩
