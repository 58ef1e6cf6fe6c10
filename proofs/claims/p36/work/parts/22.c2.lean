theorem p_X7_chooseFamily {h : HI} {g : HL} (hC : CI h) {x1 : Int32}   : w_X7_chooseFamily x1 h g (fun h' g' => JJ (SSz) h h') := by
  unfold w_X7_chooseFamily
  have hJ : JJ (SSz) h h := JJ.rf
  refine c_h (fun c c' => ?_) (fun c => ?_)
  · skip
    refine ⟨fun c => ?_, fun c => ?_⟩
    · exact absI c
    · skip
      refine c_i (p_atJ hC hJ nSSz gs_4) ?_
      rintro _ _ _ ⟨rfl, rfl, rfl⟩
      unfold j_X7_chooseFamily_33
      intro h_33 e_h_33
      have hJ := hJ.hu e_h_33 (by unfold SSz; omega)
      refine ⟨fun c => ?_, fun c => ?_⟩
      · exact absI c
      · skip
        refine c_i (p_atJ hC hJ nSSz gs_4) ?_
        rintro _ _ _ ⟨rfl, rfl, rfl⟩
        unfold j_X7_chooseFamily_61
        intro h_61 e_h_61
        have hJ := hJ.hu e_h_61 (by unfold SSz; omega)
        refine ⟨fun c => ?_, fun c => ?_⟩
        · exact absI c
        · skip
          refine c_i (p_atJ hC hJ nSSz gs_4) ?_
          rintro _ _ _ ⟨rfl, rfl, rfl⟩
          unfold j_X7_chooseFamily_86
          intro h_88 e_h_88
          have hJ := hJ.hu e_h_88 (by unfold SSz; omega)
          exact hJ
  · skip
    refine ⟨fun c => ?_, fun c => ?_⟩
    · skip
      unfold j_X7_chooseFamily_33
      intro h_33 e_h_33
      have hJ := hJ.hu e_h_33 (by unfold SSz; omega)
      refine ⟨fun c => ?_, fun c => ?_⟩
      · skip
        unfold j_X7_chooseFamily_61
        intro h_61 e_h_61
        have hJ := hJ.hu e_h_61 (by unfold SSz; omega)
        refine ⟨fun c => ?_, fun c => ?_⟩
        · skip
          unfold j_X7_chooseFamily_86
          intro h_88 e_h_88
          have hJ := hJ.hu e_h_88 (by unfold SSz; omega)
          exact hJ
        · exact absN c
      · exact absN c
    · exact absN c
theorem p_X7_allow {h : HI} {g : HL} (hC : CI h) {x1 : Int32} {x2 : Int32} {x3 : Int32}   : w_X7_allow x1 x2 x3 h g (fun h' g' => JJ (SSz) h h') := by
  unfold w_X7_allow
  have hJ : JJ (SSz) h h := JJ.rf
  refine ⟨fun c => ?_, fun c => ?_⟩
  · skip
    exact hJ
  · skip
    refine ⟨fun c => ?_, fun c => ?_⟩
    · skip
      exact hJ
    · skip
      refine ⟨fun c => ?_, fun c => ?_⟩
      · skip
        exact hJ
      · skip
        refine ⟨fun c => ?_, fun c => ?_⟩
        · skip
          refine c_i (p_atJ hC hJ nSSz gs_6) ?_
          rintro _ _ _ ⟨rfl, rfl, rfl⟩
          refine c_i (p_atJ hC hJ nSSz gs_6) ?_
          rintro _ _ _ ⟨rfl, rfl, rfl⟩
          refine c_i (p_atJ hC hJ nSSz gs_6) ?_
          rintro _ _ _ ⟨rfl, rfl, rfl⟩
          refine ⟨fun c => ?_, fun c => ?_⟩
          · skip
            unfold j_X7_allow_104
            refine ⟨fun c => ?_, fun c => ?_⟩
            · skip
              unfold j_X7_allow_125
              refine and_have (by first | with_reducible assumption | exact vin (by with_reducible assumption) (by with_reducible assumption) (by decide) | exact vinc (by with_reducible assumption) (by with_reducible assumption) (by decide) | exact vinw (by with_reducible assumption) (by with_reducible assumption) (by decide) (by decide) | exact vinl (by with_reducible assumption) (by with_reducible assumption) (by decide) | exact v60a (by with_reducible assumption) (by with_reducible assumption) | exact v60b (by with_reducible assumption) (by with_reducible assumption) | exact v60b' (by with_reducible assumption) (by with_reducible assumption) | exact v60c (by with_reducible assumption) (by with_reducible assumption) | exact v60d (by with_reducible assumption) (by with_reducible assumption)) (fun hv => ?_)
              intro h_125 e_h_125
              have hJ := hJ.hu e_h_125 (by unfold SSz; omega)
              refine ⟨fun c => ?_, fun c => ?_⟩
              · skip
                unfold j_X7_allow_147
                refine and_have (by first | with_reducible assumption | exact vin (by with_reducible assumption) (by with_reducible assumption) (by decide) | exact vinc (by with_reducible assumption) (by with_reducible assumption) (by decide) | exact vinw (by with_reducible assumption) (by with_reducible assumption) (by decide) (by decide) | exact vinl (by with_reducible assumption) (by with_reducible assumption) (by decide) | exact v60a (by with_reducible assumption) (by with_reducible assumption) | exact v60b (by with_reducible assumption) (by with_reducible assumption) | exact v60b' (by with_reducible assumption) (by with_reducible assumption) | exact v60c (by with_reducible assumption) (by with_reducible assumption) | exact v60d (by with_reducible assumption) (by with_reducible assumption)) (fun hv => ?_)
                intro h_147 e_h_147
                have hJ := hJ.hu e_h_147 (by unfold SSz; omega)
                refine and_have (by first | with_reducible assumption | exact vin (by with_reducible assumption) (by with_reducible assumption) (by decide) | exact vinc (by with_reducible assumption) (by with_reducible assumption) (by decide) | exact vinw (by with_reducible assumption) (by with_reducible assumption) (by decide) (by decide) | exact vinl (by with_reducible assumption) (by with_reducible assumption) (by decide) | exact v60a (by with_reducible assumption) (by with_reducible assumption) | exact v60b (by with_reducible assumption) (by with_reducible assumption) | exact v60b' (by with_reducible assumption) (by with_reducible assumption) | exact v60c (by with_reducible assumption) (by with_reducible assumption) | exact v60d (by with_reducible assumption) (by with_reducible assumption)) (fun hv => ?_)
                intro h_154 e_h_154
                have hJ := hJ.hu e_h_154 (by unfold SSz; omega)
                exact hJ
              · skip
                unfold j_X7_allow_147
                refine and_have (by first | with_reducible assumption | exact vin (by with_reducible assumption) (by with_reducible assumption) (by decide) | exact vinc (by with_reducible assumption) (by with_reducible assumption) (by decide) | exact vinw (by with_reducible assumption) (by with_reducible assumption) (by decide) (by decide) | exact vinl (by with_reducible assumption) (by with_reducible assumption) (by decide) | exact v60a (by with_reducible assumption) (by with_reducible assumption) | exact v60b (by with_reducible assumption) (by with_reducible assumption) | exact v60b' (by with_reducible assumption) (by with_reducible assumption) | exact v60c (by with_reducible assumption) (by with_reducible assumption) | exact v60d (by with_reducible assumption) (by with_reducible assumption)) (fun hv => ?_)
                intro h_147 e_h_147
                have hJ := hJ.hu e_h_147 (by unfold SSz; omega)
                refine and_have (by first | with_reducible assumption | exact vin (by with_reducible assumption) (by with_reducible assumption) (by decide) | exact vinc (by with_reducible assumption) (by with_reducible assumption) (by decide) | exact vinw (by with_reducible assumption) (by with_reducible assumption) (by decide) (by decide) | exact vinl (by with_reducible assumption) (by with_reducible assumption) (by decide) | exact v60a (by with_reducible assumption) (by with_reducible assumption) | exact v60b (by with_reducible assumption) (by with_reducible assumption) | exact v60b' (by with_reducible assumption) (by with_reducible assumption) | exact v60c (by with_reducible assumption) (by with_reducible assumption) | exact v60d (by with_reducible assumption) (by with_reducible assumption)) (fun hv => ?_)
                intro h_154 e_h_154
                have hJ := hJ.hu e_h_154 (by unfold SSz; omega)
                exact hJ
            · skip
              unfold j_X7_allow_125
              refine and_have (by first | with_reducible assumption | exact vin (by with_reducible assumption) (by with_reducible assumption) (by decide) | exact vinc (by with_reducible assumption) (by with_reducible assumption) (by decide) | exact vinw (by with_reducible assumption) (by with_reducible assumption) (by decide) (by decide) | exact vinl (by with_reducible assumption) (by with_reducible assumption) (by decide) | exact v60a (by with_reducible assumption) (by with_reducible assumption) | exact v60b (by with_reducible assumption) (by with_reducible assumption) | exact v60b' (by with_reducible assumption) (by with_reducible assumption) | exact v60c (by with_reducible assumption) (by with_reducible assumption) | exact v60d (by with_reducible assumption) (by with_reducible assumption)) (fun hv => ?_)
              intro h_125 e_h_125
              have hJ := hJ.hu e_h_125 (by unfold SSz; omega)
              refine ⟨fun c => ?_, fun c => ?_⟩
              · skip
                unfold j_X7_allow_147
                refine and_have (by first | with_reducible assumption | exact vin (by with_reducible assumption) (by with_reducible assumption) (by decide) | exact vinc (by with_reducible assumption) (by with_reducible assumption) (by decide) | exact vinw (by with_reducible assumption) (by with_reducible assumption) (by decide) (by decide) | exact vinl (by with_reducible assumption) (by with_reducible assumption) (by decide) | exact v60a (by with_reducible assumption) (by with_reducible assumption) | exact v60b (by with_reducible assumption) (by with_reducible assumption) | exact v60b' (by with_reducible assumption) (by with_reducible assumption) | exact v60c (by with_reducible assumption) (by with_reducible assumption) | exact v60d (by with_reducible assumption) (by with_reducible assumption)) (fun hv => ?_)
                intro h_147 e_h_147
                have hJ := hJ.hu e_h_147 (by unfold SSz; omega)
                refine and_have (by first | with_reducible assumption | exact vin (by with_reducible assumption) (by with_reducible assumption) (by decide) | exact vinc (by with_reducible assumption) (by with_reducible assumption) (by decide) | exact vinw (by with_reducible assumption) (by with_reducible assumption) (by decide) (by decide) | exact vinl (by with_reducible assumption) (by with_reducible assumption) (by decide) | exact v60a (by with_reducible assumption) (by with_reducible assumption) | exact v60b (by with_reducible assumption) (by with_reducible assumption) | exact v60b' (by with_reducible assumption) (by with_reducible assumption) | exact v60c (by with_reducible assumption) (by with_reducible assumption) | exact v60d (by with_reducible assumption) (by with_reducible assumption)) (fun hv => ?_)
                intro h_154 e_h_154
                have hJ := hJ.hu e_h_154 (by unfold SSz; omega)
                exact hJ
              · skip
                unfold j_X7_allow_147
                refine and_have (by first | with_reducible assumption | exact vin (by with_reducible assumption) (by with_reducible assumption) (by decide) | exact vinc (by with_reducible assumption) (by with_reducible assumption) (by decide) | exact vinw (by with_reducible assumption) (by with_reducible assumption) (by decide) (by decide) | exact vinl (by with_reducible assumption) (by with_reducible assumption) (by decide) | exact v60a (by with_reducible assumption) (by with_reducible assumption) | exact v60b (by with_reducible assumption) (by with_reducible assumption) | exact v60b' (by with_reducible assumption) (by with_reducible assumption) | exact v60c (by with_reducible assumption) (by with_reducible assumption) | exact v60d (by with_reducible assumption) (by with_reducible assumption)) (fun hv => ?_)
                intro h_147 e_h_147
                have hJ := hJ.hu e_h_147 (by unfold SSz; omega)
                refine and_have (by first | with_reducible assumption | exact vin (by with_reducible assumption) (by with_reducible assumption) (by decide) | exact vinc (by with_reducible assumption) (by with_reducible assumption) (by decide) | exact vinw (by with_reducible assumption) (by with_reducible assumption) (by decide) (by decide) | exact vinl (by with_reducible assumption) (by with_reducible assumption) (by decide) | exact v60a (by with_reducible assumption) (by with_reducible assumption) | exact v60b (by with_reducible assumption) (by with_reducible assumption) | exact v60b' (by with_reducible assumption) (by with_reducible assumption) | exact v60c (by with_reducible assumption) (by with_reducible assumption) | exact v60d (by with_reducible assumption) (by with_reducible assumption)) (fun hv => ?_)
                intro h_154 e_h_154
                have hJ := hJ.hu e_h_154 (by unfold SSz; omega)
                exact hJ
          · skip
            refine c_i (p_atJ hC hJ nSSz gs_6) ?_
            rintro _ _ _ ⟨rfl, rfl, rfl⟩
            refine c_i (p_X4_wornOf (hC.jj hJ nSSz) ) ?_
            rintro r_98 _ g_98 rfl
            rintro _ rfl
            unfold j_X7_allow_104
            refine ⟨fun c => ?_, fun c => ?_⟩
            · skip
              unfold j_X7_allow_125
              refine and_have (by first | with_reducible assumption | exact vin (by with_reducible assumption) (by with_reducible assumption) (by decide) | exact vinc (by with_reducible assumption) (by with_reducible assumption) (by decide) | exact vinw (by with_reducible assumption) (by with_reducible assumption) (by decide) (by decide) | exact vinl (by with_reducible assumption) (by with_reducible assumption) (by decide) | exact v60a (by with_reducible assumption) (by with_reducible assumption) | exact v60b (by with_reducible assumption) (by with_reducible assumption) | exact v60b' (by with_reducible assumption) (by with_reducible assumption) | exact v60c (by with_reducible assumption) (by with_reducible assumption) | exact v60d (by with_reducible assumption) (by with_reducible assumption)) (fun hv => ?_)
              intro h_125 e_h_125
              have hJ := hJ.hu e_h_125 (by unfold SSz; omega)
              refine ⟨fun c => ?_, fun c => ?_⟩
              · skip
                unfold j_X7_allow_147
                refine and_have (by first | with_reducible assumption | exact vin (by with_reducible assumption) (by with_reducible assumption) (by decide) | exact vinc (by with_reducible assumption) (by with_reducible assumption) (by decide) | exact vinw (by with_reducible assumption) (by with_reducible assumption) (by decide) (by decide) | exact vinl (by with_reducible assumption) (by with_reducible assumption) (by decide) | exact v60a (by with_reducible assumption) (by with_reducible assumption) | exact v60b (by with_reducible assumption) (by with_reducible assumption) | exact v60b' (by with_reducible assumption) (by with_reducible assumption) | exact v60c (by with_reducible assumption) (by with_reducible assumption) | exact v60d (by with_reducible assumption) (by with_reducible assumption)) (fun hv => ?_)
                intro h_147 e_h_147
                have hJ := hJ.hu e_h_147 (by unfold SSz; omega)
                refine and_have (by first | with_reducible assumption | exact vin (by with_reducible assumption) (by with_reducible assumption) (by decide) | exact vinc (by with_reducible assumption) (by with_reducible assumption) (by decide) | exact vinw (by with_reducible assumption) (by with_reducible assumption) (by decide) (by decide) | exact vinl (by with_reducible assumption) (by with_reducible assumption) (by decide) | exact v60a (by with_reducible assumption) (by with_reducible assumption) | exact v60b (by with_reducible assumption) (by with_reducible assumption) | exact v60b' (by with_reducible assumption) (by with_reducible assumption) | exact v60c (by with_reducible assumption) (by with_reducible assumption) | exact v60d (by with_reducible assumption) (by with_reducible assumption)) (fun hv => ?_)
                intro h_154 e_h_154
                have hJ := hJ.hu e_h_154 (by unfold SSz; omega)
                exact hJ
              · skip
                unfold j_X7_allow_147
                refine and_have (by first | with_reducible assumption | exact vin (by with_reducible assumption) (by with_reducible assumption) (by decide) | exact vinc (by with_reducible assumption) (by with_reducible assumption) (by decide) | exact vinw (by with_reducible assumption) (by with_reducible assumption) (by decide) (by decide) | exact vinl (by with_reducible assumption) (by with_reducible assumption) (by decide) | exact v60a (by with_reducible assumption) (by with_reducible assumption) | exact v60b (by with_reducible assumption) (by with_reducible assumption) | exact v60b' (by with_reducible assumption) (by with_reducible assumption) | exact v60c (by with_reducible assumption) (by with_reducible assumption) | exact v60d (by with_reducible assumption) (by with_reducible assumption)) (fun hv => ?_)
                intro h_147 e_h_147
                have hJ := hJ.hu e_h_147 (by unfold SSz; omega)
                refine and_have (by first | with_reducible assumption | exact vin (by with_reducible assumption) (by with_reducible assumption) (by decide) | exact vinc (by with_reducible assumption) (by with_reducible assumption) (by decide) | exact vinw (by with_reducible assumption) (by with_reducible assumption) (by decide) (by decide) | exact vinl (by with_reducible assumption) (by with_reducible assumption) (by decide) | exact v60a (by with_reducible assumption) (by with_reducible assumption) | exact v60b (by with_reducible assumption) (by with_reducible assumption) | exact v60b' (by with_reducible assumption) (by with_reducible assumption) | exact v60c (by with_reducible assumption) (by with_reducible assumption) | exact v60d (by with_reducible assumption) (by with_reducible assumption)) (fun hv => ?_)
                intro h_154 e_h_154
                have hJ := hJ.hu e_h_154 (by unfold SSz; omega)
                exact hJ
            · skip
              unfold j_X7_allow_125
              refine and_have (by first | with_reducible assumption | exact vin (by with_reducible assumption) (by with_reducible assumption) (by decide) | exact vinc (by with_reducible assumption) (by with_reducible assumption) (by decide) | exact vinw (by with_reducible assumption) (by with_reducible assumption) (by decide) (by decide) | exact vinl (by with_reducible assumption) (by with_reducible assumption) (by decide) | exact v60a (by with_reducible assumption) (by with_reducible assumption) | exact v60b (by with_reducible assumption) (by with_reducible assumption) | exact v60b' (by with_reducible assumption) (by with_reducible assumption) | exact v60c (by with_reducible assumption) (by with_reducible assumption) | exact v60d (by with_reducible assumption) (by with_reducible assumption)) (fun hv => ?_)
              intro h_125 e_h_125
              have hJ := hJ.hu e_h_125 (by unfold SSz; omega)
              refine ⟨fun c => ?_, fun c => ?_⟩
              · skip
                unfold j_X7_allow_147
                refine and_have (by first | with_reducible assumption | exact vin (by with_reducible assumption) (by with_reducible assumption) (by decide) | exact vinc (by with_reducible assumption) (by with_reducible assumption) (by decide) | exact vinw (by with_reducible assumption) (by with_reducible assumption) (by decide) (by decide) | exact vinl (by with_reducible assumption) (by with_reducible assumption) (by decide) | exact v60a (by with_reducible assumption) (by with_reducible assumption) | exact v60b (by with_reducible assumption) (by with_reducible assumption) | exact v60b' (by with_reducible assumption) (by with_reducible assumption) | exact v60c (by with_reducible assumption) (by with_reducible assumption) | exact v60d (by with_reducible assumption) (by with_reducible assumption)) (fun hv => ?_)
                intro h_147 e_h_147
                have hJ := hJ.hu e_h_147 (by unfold SSz; omega)
                refine and_have (by first | with_reducible assumption | exact vin (by with_reducible assumption) (by with_reducible assumption) (by decide) | exact vinc (by with_reducible assumption) (by with_reducible assumption) (by decide) | exact vinw (by with_reducible assumption) (by with_reducible assumption) (by decide) (by decide) | exact vinl (by with_reducible assumption) (by with_reducible assumption) (by decide) | exact v60a (by with_reducible assumption) (by with_reducible assumption) | exact v60b (by with_reducible assumption) (by with_reducible assumption) | exact v60b' (by with_reducible assumption) (by with_reducible assumption) | exact v60c (by with_reducible assumption) (by with_reducible assumption) | exact v60d (by with_reducible assumption) (by with_reducible assumption)) (fun hv => ?_)
                intro h_154 e_h_154
                have hJ := hJ.hu e_h_154 (by unfold SSz; omega)
                exact hJ
              · skip
                unfold j_X7_allow_147
                refine and_have (by first | with_reducible assumption | exact vin (by with_reducible assumption) (by with_reducible assumption) (by decide) | exact vinc (by with_reducible assumption) (by with_reducible assumption) (by decide) | exact vinw (by with_reducible assumption) (by with_reducible assumption) (by decide) (by decide) | exact vinl (by with_reducible assumption) (by with_reducible assumption) (by decide) | exact v60a (by with_reducible assumption) (by with_reducible assumption) | exact v60b (by with_reducible assumption) (by with_reducible assumption) | exact v60b' (by with_reducible assumption) (by with_reducible assumption) | exact v60c (by with_reducible assumption) (by with_reducible assumption) | exact v60d (by with_reducible assumption) (by with_reducible assumption)) (fun hv => ?_)
                intro h_147 e_h_147
                have hJ := hJ.hu e_h_147 (by unfold SSz; omega)
                refine and_have (by first | with_reducible assumption | exact vin (by with_reducible assumption) (by with_reducible assumption) (by decide) | exact vinc (by with_reducible assumption) (by with_reducible assumption) (by decide) | exact vinw (by with_reducible assumption) (by with_reducible assumption) (by decide) (by decide) | exact vinl (by with_reducible assumption) (by with_reducible assumption) (by decide) | exact v60a (by with_reducible assumption) (by with_reducible assumption) | exact v60b (by with_reducible assumption) (by with_reducible assumption) | exact v60b' (by with_reducible assumption) (by with_reducible assumption) | exact v60c (by with_reducible assumption) (by with_reducible assumption) | exact v60d (by with_reducible assumption) (by with_reducible assumption)) (fun hv => ?_)
                intro h_154 e_h_154
                have hJ := hJ.hu e_h_154 (by unfold SSz; omega)
                exact hJ
        · skip
          exact hJ
theorem p_X7_placeFrom {h : HI} {g : HL} (hC : CI h) {x1 : Int32}   : w_X7_placeFrom x1 h g (fun r h' g' => h = h' ∧ g = g') := by
  unfold w_X7_placeFrom
  refine ⟨fun c => ?_, fun c => ?_⟩
  · skip
    unfold j_X7_placeFrom_16
    exact ⟨rfl, rfl⟩
  · skip
    refine ⟨fun c => ?_, fun c => ?_⟩
    · skip
      refine and_have (by exact ne1 (by with_reducible assumption)) (fun hv => ?_)
      exact ⟨rfl, rfl⟩
    · skip
      unfold j_X7_placeFrom_16
      exact ⟨rfl, rfl⟩
theorem p_X7_chooseSizes {h : HI} {g : HL} (hC : CI h)    : w_X7_chooseSizes h g (fun h' g' => JJ (SSz) h h') := by
  unfold w_X7_chooseSizes
  have hJ : JJ (SSz) h h := JJ.rf
  refine lpE_intro (fun ⟨x1_q, x2_q, x3_q, h_q, g_q⟩ => JJ (SSz) h h_q ∧ ¬ x3_q < 0 ∧ True) (fun ⟨x1_q, x2_q, x3_q, h_q, g_q⟩ => dif (60 : Int32) x3_q) ?_ _ ⟨hJ, nn0, trivial⟩
  rintro ⟨x1_1, x2_1, x3_1, h_1, g_1⟩ K1 ⟨hJ, i1_0, -⟩ hK1
  unfold F_X7_chooseSizes_8; dsimp only; unfold b_X7_chooseSizes_8
  refine ⟨fun c => ?_, fun c => ?_⟩
  · skip
    unfold j_X7_chooseSizes_62
    refine c_i (p_X7_placeFrom (hC.jj hJ nSSz) ) ?_
    rintro r_64 _ _ ⟨rfl, rfl⟩
    refine ⟨fun c => ?_, fun c => ?_⟩
    · skip
      unfold j_X7_chooseSizes_84
      unfold j_X7_chooseSizes_106
      intro h_119 e_h_119
      have hJ := hJ.hu e_h_119 (by unfold SSz; omega)
      refine ⟨fun c => ?_, fun c => ?_⟩
      · skip
        unfold j_X7_chooseSizes_145
        intro h_145 e_h_145
        have hJ := hJ.hu e_h_145 (by unfold SSz; omega)
        refine ⟨fun c => ?_, fun c => ?_⟩
        · skip
          unfold j_X7_chooseSizes_172
          intro h_172 e_h_172
          have hJ := hJ.hu e_h_172 (by unfold SSz; omega)
          exact hJ
        · skip
          unfold j_X7_chooseSizes_172
          intro h_172 e_h_172
          have hJ := hJ.hu e_h_172 (by unfold SSz; omega)
          exact hJ
      · skip
        unfold j_X7_chooseSizes_145
        intro h_145 e_h_145
        have hJ := hJ.hu e_h_145 (by unfold SSz; omega)
        refine ⟨fun c => ?_, fun c => ?_⟩
        · skip
          unfold j_X7_chooseSizes_172
          intro h_172 e_h_172
          have hJ := hJ.hu e_h_172 (by unfold SSz; omega)
          exact hJ
        · skip
          unfold j_X7_chooseSizes_172
          intro h_172 e_h_172
          have hJ := hJ.hu e_h_172 (by unfold SSz; omega)
          exact hJ
    · skip
      refine ⟨fun c => ?_, fun c => ?_⟩
      · skip
        refine and_have (by exact ne1 (by with_reducible assumption)) (fun hv => ?_)
        unfold j_X7_chooseSizes_106
        intro h_119 e_h_119
        have hJ := hJ.hu e_h_119 (by unfold SSz; omega)
        refine ⟨fun c => ?_, fun c => ?_⟩
        · skip
          unfold j_X7_chooseSizes_145
          intro h_145 e_h_145
          have hJ := hJ.hu e_h_145 (by unfold SSz; omega)
          refine ⟨fun c => ?_, fun c => ?_⟩
          · skip
            unfold j_X7_chooseSizes_172
            intro h_172 e_h_172
            have hJ := hJ.hu e_h_172 (by unfold SSz; omega)
            exact hJ
          · skip
            unfold j_X7_chooseSizes_172
            intro h_172 e_h_172
            have hJ := hJ.hu e_h_172 (by unfold SSz; omega)
            exact hJ
        · skip
          unfold j_X7_chooseSizes_145
          intro h_145 e_h_145
          have hJ := hJ.hu e_h_145 (by unfold SSz; omega)
          refine ⟨fun c => ?_, fun c => ?_⟩
          · skip
            unfold j_X7_chooseSizes_172
            intro h_172 e_h_172
            have hJ := hJ.hu e_h_172 (by unfold SSz; omega)
            exact hJ
          · skip
            unfold j_X7_chooseSizes_172
            intro h_172 e_h_172
            have hJ := hJ.hu e_h_172 (by unfold SSz; omega)
            exact hJ
      · skip
        unfold j_X7_chooseSizes_84
        unfold j_X7_chooseSizes_106
        intro h_119 e_h_119
        have hJ := hJ.hu e_h_119 (by unfold SSz; omega)
        refine ⟨fun c => ?_, fun c => ?_⟩
        · skip
          unfold j_X7_chooseSizes_145
          intro h_145 e_h_145
          have hJ := hJ.hu e_h_145 (by unfold SSz; omega)
          refine ⟨fun c => ?_, fun c => ?_⟩
          · skip
            unfold j_X7_chooseSizes_172
            intro h_172 e_h_172
            have hJ := hJ.hu e_h_172 (by unfold SSz; omega)
            exact hJ
          · skip
            unfold j_X7_chooseSizes_172
            intro h_172 e_h_172
            have hJ := hJ.hu e_h_172 (by unfold SSz; omega)
            exact hJ
        · skip
          unfold j_X7_chooseSizes_145
          intro h_145 e_h_145
          have hJ := hJ.hu e_h_145 (by unfold SSz; omega)
          refine ⟨fun c => ?_, fun c => ?_⟩
          · skip
            unfold j_X7_chooseSizes_172
            intro h_172 e_h_172
            have hJ := hJ.hu e_h_172 (by unfold SSz; omega)
            exact hJ
          · skip
            unfold j_X7_chooseSizes_172
            intro h_172 e_h_172
            have hJ := hJ.hu e_h_172 (by unfold SSz; omega)
            exact hJ
  · skip
    refine ⟨fun c => ?_, fun c => ?_⟩
    · skip
      unfold j_X7_chooseSizes_62
      refine c_i (p_X7_placeFrom (hC.jj hJ nSSz) ) ?_
      rintro r_64 _ _ ⟨rfl, rfl⟩
      refine ⟨fun c => ?_, fun c => ?_⟩
      · skip
        unfold j_X7_chooseSizes_84
        unfold j_X7_chooseSizes_106
        intro h_119 e_h_119
        have hJ := hJ.hu e_h_119 (by unfold SSz; omega)
        refine ⟨fun c => ?_, fun c => ?_⟩
        · skip
          unfold j_X7_chooseSizes_145
          intro h_145 e_h_145
          have hJ := hJ.hu e_h_145 (by unfold SSz; omega)
          refine ⟨fun c => ?_, fun c => ?_⟩
          · skip
            unfold j_X7_chooseSizes_172
            intro h_172 e_h_172
            have hJ := hJ.hu e_h_172 (by unfold SSz; omega)
            exact hJ
          · skip
            unfold j_X7_chooseSizes_172
            intro h_172 e_h_172
            have hJ := hJ.hu e_h_172 (by unfold SSz; omega)
            exact hJ
        · skip
          unfold j_X7_chooseSizes_145
          intro h_145 e_h_145
          have hJ := hJ.hu e_h_145 (by unfold SSz; omega)
          refine ⟨fun c => ?_, fun c => ?_⟩
          · skip
            unfold j_X7_chooseSizes_172
            intro h_172 e_h_172
            have hJ := hJ.hu e_h_172 (by unfold SSz; omega)
            exact hJ
          · skip
            unfold j_X7_chooseSizes_172
            intro h_172 e_h_172
            have hJ := hJ.hu e_h_172 (by unfold SSz; omega)
            exact hJ
      · skip
        refine ⟨fun c => ?_, fun c => ?_⟩
        · skip
          refine and_have (by exact ne1 (by with_reducible assumption)) (fun hv => ?_)
          unfold j_X7_chooseSizes_106
          intro h_119 e_h_119
          have hJ := hJ.hu e_h_119 (by unfold SSz; omega)
          refine ⟨fun c => ?_, fun c => ?_⟩
          · skip
            unfold j_X7_chooseSizes_145
            intro h_145 e_h_145
            have hJ := hJ.hu e_h_145 (by unfold SSz; omega)
            refine ⟨fun c => ?_, fun c => ?_⟩
            · skip
              unfold j_X7_chooseSizes_172
              intro h_172 e_h_172
              have hJ := hJ.hu e_h_172 (by unfold SSz; omega)
              exact hJ
            · skip
              unfold j_X7_chooseSizes_172
              intro h_172 e_h_172
              have hJ := hJ.hu e_h_172 (by unfold SSz; omega)
              exact hJ
          · skip
            unfold j_X7_chooseSizes_145
            intro h_145 e_h_145
            have hJ := hJ.hu e_h_145 (by unfold SSz; omega)
            refine ⟨fun c => ?_, fun c => ?_⟩
            · skip
              unfold j_X7_chooseSizes_172
              intro h_172 e_h_172
              have hJ := hJ.hu e_h_172 (by unfold SSz; omega)
              exact hJ
            · skip
              unfold j_X7_chooseSizes_172
              intro h_172 e_h_172
              have hJ := hJ.hu e_h_172 (by unfold SSz; omega)
              exact hJ
        · skip
          unfold j_X7_chooseSizes_84
          unfold j_X7_chooseSizes_106
          intro h_119 e_h_119
          have hJ := hJ.hu e_h_119 (by unfold SSz; omega)
          refine ⟨fun c => ?_, fun c => ?_⟩
          · skip
            unfold j_X7_chooseSizes_145
            intro h_145 e_h_145
            have hJ := hJ.hu e_h_145 (by unfold SSz; omega)
            refine ⟨fun c => ?_, fun c => ?_⟩
            · skip
              unfold j_X7_chooseSizes_172
              intro h_172 e_h_172
              have hJ := hJ.hu e_h_172 (by unfold SSz; omega)
              exact hJ
            · skip
              unfold j_X7_chooseSizes_172
              intro h_172 e_h_172
              have hJ := hJ.hu e_h_172 (by unfold SSz; omega)
              exact hJ
          · skip
            unfold j_X7_chooseSizes_145
            intro h_145 e_h_145
            have hJ := hJ.hu e_h_145 (by unfold SSz; omega)
            refine ⟨fun c => ?_, fun c => ?_⟩
            · skip
              unfold j_X7_chooseSizes_172
              intro h_172 e_h_172
              have hJ := hJ.hu e_h_172 (by unfold SSz; omega)
              exact hJ
            · skip
              unfold j_X7_chooseSizes_172
              intro h_172 e_h_172
              have hJ := hJ.hu e_h_172 (by unfold SSz; omega)
              exact hJ
    · skip
      refine ⟨fun c => ?_, fun c => ?_⟩
      · skip
        unfold j_X7_chooseSizes_62
        refine c_i (p_X7_placeFrom (hC.jj hJ nSSz) ) ?_
        rintro r_64 _ _ ⟨rfl, rfl⟩
        refine ⟨fun c => ?_, fun c => ?_⟩
        · skip
          unfold j_X7_chooseSizes_84
          unfold j_X7_chooseSizes_106
          intro h_119 e_h_119
          have hJ := hJ.hu e_h_119 (by unfold SSz; omega)
          refine ⟨fun c => ?_, fun c => ?_⟩
          · skip
            unfold j_X7_chooseSizes_145
            intro h_145 e_h_145
            have hJ := hJ.hu e_h_145 (by unfold SSz; omega)
            refine ⟨fun c => ?_, fun c => ?_⟩
            · skip
              unfold j_X7_chooseSizes_172
              intro h_172 e_h_172
              have hJ := hJ.hu e_h_172 (by unfold SSz; omega)
              exact hJ
            · skip
              unfold j_X7_chooseSizes_172
              intro h_172 e_h_172
              have hJ := hJ.hu e_h_172 (by unfold SSz; omega)
              exact hJ
          · skip
            unfold j_X7_chooseSizes_145
            intro h_145 e_h_145
            have hJ := hJ.hu e_h_145 (by unfold SSz; omega)
            refine ⟨fun c => ?_, fun c => ?_⟩
            · skip
              unfold j_X7_chooseSizes_172
              intro h_172 e_h_172
              have hJ := hJ.hu e_h_172 (by unfold SSz; omega)
              exact hJ
            · skip
              unfold j_X7_chooseSizes_172
              intro h_172 e_h_172
              have hJ := hJ.hu e_h_172 (by unfold SSz; omega)
              exact hJ
        · skip
          refine ⟨fun c => ?_, fun c => ?_⟩
          · skip
            refine and_have (by exact ne1 (by with_reducible assumption)) (fun hv => ?_)
            unfold j_X7_chooseSizes_106
            intro h_119 e_h_119
            have hJ := hJ.hu e_h_119 (by unfold SSz; omega)
            refine ⟨fun c => ?_, fun c => ?_⟩
            · skip
              unfold j_X7_chooseSizes_145
              intro h_145 e_h_145
              have hJ := hJ.hu e_h_145 (by unfold SSz; omega)
              refine ⟨fun c => ?_, fun c => ?_⟩
              · skip
                unfold j_X7_chooseSizes_172
                intro h_172 e_h_172
                have hJ := hJ.hu e_h_172 (by unfold SSz; omega)
                exact hJ
              · skip
                unfold j_X7_chooseSizes_172
                intro h_172 e_h_172
                have hJ := hJ.hu e_h_172 (by unfold SSz; omega)
                exact hJ
            · skip
              unfold j_X7_chooseSizes_145
              intro h_145 e_h_145
              have hJ := hJ.hu e_h_145 (by unfold SSz; omega)
              refine ⟨fun c => ?_, fun c => ?_⟩
              · skip
                unfold j_X7_chooseSizes_172
                intro h_172 e_h_172
                have hJ := hJ.hu e_h_172 (by unfold SSz; omega)
                exact hJ
              · skip
                unfold j_X7_chooseSizes_172
                intro h_172 e_h_172
                have hJ := hJ.hu e_h_172 (by unfold SSz; omega)
                exact hJ
          · skip
            unfold j_X7_chooseSizes_84
            unfold j_X7_chooseSizes_106
            intro h_119 e_h_119
            have hJ := hJ.hu e_h_119 (by unfold SSz; omega)
            refine ⟨fun c => ?_, fun c => ?_⟩
            · skip
              unfold j_X7_chooseSizes_145
              intro h_145 e_h_145
              have hJ := hJ.hu e_h_145 (by unfold SSz; omega)
              refine ⟨fun c => ?_, fun c => ?_⟩
              · skip
                unfold j_X7_chooseSizes_172
                intro h_172 e_h_172
                have hJ := hJ.hu e_h_172 (by unfold SSz; omega)
                exact hJ
              · skip
                unfold j_X7_chooseSizes_172
                intro h_172 e_h_172
                have hJ := hJ.hu e_h_172 (by unfold SSz; omega)
                exact hJ
            · skip
              unfold j_X7_chooseSizes_145
              intro h_145 e_h_145
              have hJ := hJ.hu e_h_145 (by unfold SSz; omega)
              refine ⟨fun c => ?_, fun c => ?_⟩
              · skip
                unfold j_X7_chooseSizes_172
                intro h_172 e_h_172
                have hJ := hJ.hu e_h_172 (by unfold SSz; omega)
                exact hJ
              · skip
                unfold j_X7_chooseSizes_172
                intro h_172 e_h_172
                have hJ := hJ.hu e_h_172 (by unfold SSz; omega)
                exact hJ
      · skip
        refine and_have (by first | with_reducible assumption | exact vin (by with_reducible assumption) (by with_reducible assumption) (by decide) | exact vinc (by with_reducible assumption) (by with_reducible assumption) (by decide) | exact vinw (by with_reducible assumption) (by with_reducible assumption) (by decide) (by decide) | exact vinl (by with_reducible assumption) (by with_reducible assumption) (by decide) | exact v60a (by with_reducible assumption) (by with_reducible assumption) | exact v60b (by with_reducible assumption) (by with_reducible assumption) | exact v60b' (by with_reducible assumption) (by with_reducible assumption) | exact v60c (by with_reducible assumption) (by with_reducible assumption) | exact v60d (by with_reducible assumption) (by with_reducible assumption)) (fun hv => ?_)
        rintro _ rfl
        refine and_have (by first | with_reducible assumption | exact vin (by with_reducible assumption) (by with_reducible assumption) (by decide) | exact vinc (by with_reducible assumption) (by with_reducible assumption) (by decide) | exact vinw (by with_reducible assumption) (by with_reducible assumption) (by decide) (by decide) | exact vinl (by with_reducible assumption) (by with_reducible assumption) (by decide) | exact v60a (by with_reducible assumption) (by with_reducible assumption) | exact v60b (by with_reducible assumption) (by with_reducible assumption) | exact v60b' (by with_reducible assumption) (by with_reducible assumption) | exact v60c (by with_reducible assumption) (by with_reducible assumption) | exact v60d (by with_reducible assumption) (by with_reducible assumption)) (fun hv => ?_)
        rintro _ rfl
        rintro _ rfl
        exact hK1 _ ⟨hJ, (inc_nn (by with_reducible assumption) (by with_reducible assumption)), trivial⟩ (dif_lt (by with_reducible assumption))
theorem p_X7_find {h : HI} {g : HL} (hC : CI h) {x1 : Int32}   : w_X7_find x1 h g (fun h' g' => JJ (SSz) h h') := by
  unfold w_X7_find
  have hJ : JJ (SSz) h h := JJ.rf
  refine c_i (p_atJ hC hJ nSSz gs_2) ?_
  rintro _ _ _ ⟨rfl, rfl, rfl⟩
  refine c_v (p_X7_chooseFamily (hC.jj hJ nSSz) ) ?_
  rintro h_13 g_13 hJ2
  have hJ := hJ.tr (hJ2)
  intro h_18 e_h_18
  have hJ := hJ.hu e_h_18 (by unfold SSz; omega)
  refine lpE_intro (fun ⟨x1_q, x2_q, h_q, g_q⟩ => JJ (SSz) h h_q ∧ x1 = x1_q ∧ True) (fun ⟨x1_q, x2_q, h_q, g_q⟩ => dif (h 6 3) x2_q) ?_ _ ⟨hJ, rfl, trivial⟩
  rintro ⟨x1_1, x2_1, h_1, g_1⟩ K1 ⟨hJ, rfl, -⟩ hK1
  unfold F_X7_find_23; dsimp only; unfold b_X7_find_23
  refine c_i (p_rowsJ hJ nSSz gs_6) ?_
  rintro _ _ _ ⟨rfl, rfl, rfl⟩
  refine ⟨fun c => ?_, fun c => ?_⟩
  · skip
    refine c_v (p_X7_chooseSizes (hC.jj hJ nSSz) ) ?_
    rintro h_117 g_117 hJ2
    have hJ := hJ.tr (hJ2)
    exact hJ
  · skip
    refine c_i (p_atJ hC hJ nSSz gs_6) ?_
    rintro _ _ _ ⟨rfl, rfl, rfl⟩
    refine ⟨fun c => ?_, fun c => ?_⟩
    · skip
      unfold j_X7_find_72
      unfold j_X7_find_73
      refine ⟨fun c => ?_, fun c => ?_⟩
      · skip
        unfold j_X7_find_110
        rintro _ rfl
        exact hK1 _ ⟨hJ, rfl, trivial⟩ (dif_lt (by with_reducible assumption))
      · exact absN c
    · skip
      refine c_i (p_atJ hC hJ nSSz gs_6) ?_
      rintro _ _ _ ⟨rfl, rfl, rfl⟩
      refine ⟨fun c => ?_, fun c => ?_⟩
      · skip
        unfold j_X7_find_72
        unfold j_X7_find_73
        refine ⟨fun c => ?_, fun c => ?_⟩
        · skip
          unfold j_X7_find_110
          rintro _ rfl
          exact hK1 _ ⟨hJ, rfl, trivial⟩ (dif_lt (by with_reducible assumption))
        · exact absN c
      · skip
        unfold j_X7_find_73
        refine ⟨fun c => ?_, fun c => ?_⟩
        · exact absI c
        · skip
          refine ⟨fun c => ?_, fun c => ?_⟩
          · skip
            unfold j_X7_find_110
            rintro _ rfl
            exact hK1 _ ⟨hJ, rfl, trivial⟩ (dif_lt (by with_reducible assumption))
          · skip
            refine c_v (p_X7_allow (hC.jj hJ nSSz) ) ?_
            rintro h_97 g_97 hJ2
            have hJ := hJ.tr (hJ2)
            intro h_107 e_h_107
            have hJ := hJ.hu e_h_107 (by unfold SSz; omega)
            unfold j_X7_find_110
            rintro _ rfl
            exact hK1 _ ⟨hJ, rfl, trivial⟩ (dif_lt (by with_reducible assumption))
theorem p_X7_answer {h : HI} {g : HL} (hC : CI h) {x1 : Int32}   : w_X7_answer x1 h g (fun r h' g' => h = h' ∧ g = g') := by
  unfold w_X7_answer
  refine ⟨fun c => ?_, fun c => ?_⟩
  · skip
    refine ⟨fun c => ?_, fun c => ?_⟩
    · skip
      exact ⟨rfl, rfl⟩
    · skip
      exact ⟨rfl, rfl⟩
  · skip
    exact ⟨rfl, rfl⟩
theorem p_X7_denies {h : HI} {g : HL} (hC : CI h) {x1 : Int32} {x2 : Int32}   : w_X7_denies x1 x2 h g (fun r h' g' => h = h' ∧ g = g') := by
  unfold w_X7_denies
  refine ⟨fun c => ?_, fun c => ?_⟩
  · skip
    exact ⟨rfl, rfl⟩
  · skip
    refine ⟨fun c => ?_, fun c => ?_⟩
    · skip
      exact ⟨rfl, rfl⟩
    · skip
      refine ⟨fun c => ?_, fun c => ?_⟩
      · skip
        exact ⟨rfl, rfl⟩
      · skip
        refine and_have (by first | with_reducible assumption | exact vin (by with_reducible assumption) (by with_reducible assumption) (by decide) | exact vinc (by with_reducible assumption) (by with_reducible assumption) (by decide) | exact vinw (by with_reducible assumption) (by with_reducible assumption) (by decide) (by decide) | exact vinl (by with_reducible assumption) (by with_reducible assumption) (by decide) | exact v60a (by with_reducible assumption) (by with_reducible assumption) | exact v60b (by with_reducible assumption) (by with_reducible assumption) | exact v60b' (by with_reducible assumption) (by with_reducible assumption) | exact v60c (by with_reducible assumption) (by with_reducible assumption) | exact v60d (by with_reducible assumption) (by with_reducible assumption)) (fun hv => ?_)
        refine ⟨fun c => ?_, fun c => ?_⟩
        · skip
          unfold j_X7_denies_42
          exact ⟨rfl, rfl⟩
        · skip
          refine and_have (by first | with_reducible assumption | exact vin (by with_reducible assumption) (by with_reducible assumption) (by decide) | exact vinc (by with_reducible assumption) (by with_reducible assumption) (by decide) | exact vinw (by with_reducible assumption) (by with_reducible assumption) (by decide) (by decide) | exact vinl (by with_reducible assumption) (by with_reducible assumption) (by decide) | exact v60a (by with_reducible assumption) (by with_reducible assumption) | exact v60b (by with_reducible assumption) (by with_reducible assumption) | exact v60b' (by with_reducible assumption) (by with_reducible assumption) | exact v60c (by with_reducible assumption) (by with_reducible assumption) | exact v60d (by with_reducible assumption) (by with_reducible assumption)) (fun hv => ?_)
          refine ⟨fun c => ?_, fun c => ?_⟩
          · skip
            exact ⟨rfl, rfl⟩
          · skip
            unfold j_X7_denies_42
            exact ⟨rfl, rfl⟩
theorem p_X7_against {h : HI} {g : HL} (hC : CI h) {x1 : Int32}   : w_X7_against x1 h g (fun r h' g' => h = h' ∧ g = g') := by
  unfold w_X7_against
  refine lpE_intro (fun ⟨x1_q, x2_q, x3_q, h_q, g_q⟩ => x1 = x1_q ∧ h = h_q ∧ g = g_q ∧ True) (fun ⟨x1_q, x2_q, x3_q, h_q, g_q⟩ => dif (h 81 5) x3_q) ?_ _ ⟨rfl, rfl, rfl, trivial⟩
  rintro ⟨x1_1, x2_1, x3_1, h_1, g_1⟩ K1 ⟨rfl, rfl, rfl, -⟩ hK1
  unfold F_X7_against_4; dsimp only; unfold b_X7_against_4
  refine ⟨fun c => ?_, fun c => ?_⟩
  · skip
    exact ⟨rfl, rfl⟩
  · skip
    refine c_z (p_X7_denies hC ) ?_
    rintro r_15 _ _ ⟨rfl, rfl⟩
    refine ⟨fun c => ?_, fun c => ?_⟩
    · skip
      unfold j_X7_against_24
      rintro _ rfl
      exact hK1 _ ⟨rfl, rfl, rfl, trivial⟩ (dif_lt (by with_reducible assumption))
    · skip
      rintro _ rfl
      unfold j_X7_against_24
      rintro _ rfl
      exact hK1 _ ⟨rfl, rfl, rfl, trivial⟩ (dif_lt (by with_reducible assumption))
theorem p_X7_leastDisputed {h : HI} {g : HL} (hC : CI h)    : w_X7_leastDisputed h g (fun r h' g' => h = h' ∧ g = g') := by
  unfold w_X7_leastDisputed
  rintro _ rfl
  refine c_i (p_X7_against hC ) ?_
  rintro r_10 _ _ ⟨rfl, rfl⟩
  refine lpE_intro (fun ⟨x1_q, x2_q, x3_q, h_q, g_q⟩ => h = h_q ∧ g = g_q ∧ ¬ x3_q < 0 ∧ True) (fun ⟨x1_q, x2_q, x3_q, h_q, g_q⟩ => dif (60 : Int32) x3_q) ?_ _ ⟨rfl, rfl, nn0, trivial⟩
  rintro ⟨x1_1, x2_1, x3_1, h_1, g_1⟩ K1 ⟨rfl, rfl, i1_0, -⟩ hK1
  unfold F_X7_leastDisputed_16; dsimp only; unfold b_X7_leastDisputed_16
  refine ⟨fun c => ?_, fun c => ?_⟩
  · skip
    exact ⟨rfl, rfl⟩
  · skip
    refine ⟨fun c => ?_, fun c => ?_⟩
    · skip
      exact ⟨rfl, rfl⟩
    · skip
      refine and_have (by first | with_reducible assumption | exact vin (by with_reducible assumption) (by with_reducible assumption) (by decide) | exact vinc (by with_reducible assumption) (by with_reducible assumption) (by decide) | exact vinw (by with_reducible assumption) (by with_reducible assumption) (by decide) (by decide) | exact vinl (by with_reducible assumption) (by with_reducible assumption) (by decide) | exact v60a (by with_reducible assumption) (by with_reducible assumption) | exact v60b (by with_reducible assumption) (by with_reducible assumption) | exact v60b' (by with_reducible assumption) (by with_reducible assumption) | exact v60c (by with_reducible assumption) (by with_reducible assumption) | exact v60d (by with_reducible assumption) (by with_reducible assumption)) (fun hv => ?_)
      refine c_i (p_X7_placeFrom hC ) ?_
      rintro r_40 _ _ ⟨rfl, rfl⟩
      refine ⟨fun c => ?_, fun c => ?_⟩
      · skip
        rintro _ rfl
        refine c_i (p_X7_against hC ) ?_
        rintro r_74 _ _ ⟨rfl, rfl⟩
        refine ⟨fun c => ?_, fun c => ?_⟩
        · skip
          unfold j_X7_leastDisputed_97
          unfold j_X7_leastDisputed_103
          rintro _ rfl
          exact hK1 _ ⟨rfl, rfl, (inc_nn (by with_reducible assumption) (by with_reducible assumption)), trivial⟩ (dif_lt (by with_reducible assumption))
        · skip
          refine ⟨fun c => ?_, fun c => ?_⟩
          · skip
            unfold j_X7_leastDisputed_103
            rintro _ rfl
            exact hK1 _ ⟨rfl, rfl, (inc_nn (by with_reducible assumption) (by with_reducible assumption)), trivial⟩ (dif_lt (by with_reducible assumption))
          · skip
            refine ⟨fun c => ?_, fun c => ?_⟩
            · skip
              unfold j_X7_leastDisputed_103
              rintro _ rfl
              exact hK1 _ ⟨rfl, rfl, (inc_nn (by with_reducible assumption) (by with_reducible assumption)), trivial⟩ (dif_lt (by with_reducible assumption))
            · skip
              unfold j_X7_leastDisputed_97
              unfold j_X7_leastDisputed_103
              rintro _ rfl
              exact hK1 _ ⟨rfl, rfl, (inc_nn (by with_reducible assumption) (by with_reducible assumption)), trivial⟩ (dif_lt (by with_reducible assumption))
      · skip
        unfold j_X7_leastDisputed_103
        rintro _ rfl
        exact hK1 _ ⟨rfl, rfl, (inc_nn (by with_reducible assumption) (by with_reducible assumption)), trivial⟩ (dif_lt (by with_reducible assumption))
theorem p_X7_objector {h : HI} {g : HL} (hC : CI h) {x1 : Int32} {x2 : Int32}   : w_X7_objector x1 x2 h g (fun r h' g' => h = h' ∧ g = g') := by
  unfold w_X7_objector
  refine lpE_intro (fun ⟨x1_q, x2_q, x3_q, x4_q, h_q, g_q⟩ => x1 = x1_q ∧ x2 = x2_q ∧ h = h_q ∧ g = g_q ∧ ¬ x4_q < 0 ∧ True) (fun ⟨x1_q, x2_q, x3_q, x4_q, h_q, g_q⟩ => dif (60 : Int32) x4_q) ?_ _ ⟨rfl, rfl, rfl, rfl, nn0, trivial⟩
  rintro ⟨x1_1, x2_1, x3_1, x4_1, h_1, g_1⟩ K1 ⟨rfl, rfl, rfl, rfl, i1_0, -⟩ hK1
  unfold F_X7_objector_5; dsimp only; unfold b_X7_objector_5
  refine ⟨fun c => ?_, fun c => ?_⟩
  · skip
    exact ⟨rfl, rfl⟩
  · skip
    refine ⟨fun c => ?_, fun c => ?_⟩
    · skip
      exact ⟨rfl, rfl⟩
    · skip
      refine c_z (p_X7_denies hC ) ?_
      rintro r_28 _ _ ⟨rfl, rfl⟩
      refine ⟨fun c => ?_, fun c => ?_⟩
      · skip
        refine ⟨fun c => ?_, fun c => ?_⟩
        · skip
          rintro _ rfl
          unfold j_X7_objector_53
          rintro _ rfl
          exact hK1 _ ⟨rfl, rfl, rfl, rfl, (inc_nn (by with_reducible assumption) (by with_reducible assumption)), trivial⟩ (dif_lt (by with_reducible assumption))
        · skip
          refine and_have (by first | with_reducible assumption | exact vin (by with_reducible assumption) (by with_reducible assumption) (by decide) | exact vinc (by with_reducible assumption) (by with_reducible assumption) (by decide) | exact vinw (by with_reducible assumption) (by with_reducible assumption) (by decide) (by decide) | exact vinl (by with_reducible assumption) (by with_reducible assumption) (by decide) | exact v60a (by with_reducible assumption) (by with_reducible assumption) | exact v60b (by with_reducible assumption) (by with_reducible assumption) | exact v60b' (by with_reducible assumption) (by with_reducible assumption) | exact v60c (by with_reducible assumption) (by with_reducible assumption) | exact v60d (by with_reducible assumption) (by with_reducible assumption)) (fun hv => ?_)
          exact ⟨rfl, rfl⟩
      · skip
        unfold j_X7_objector_53
        rintro _ rfl
        exact hK1 _ ⟨rfl, rfl, rfl, rfl, (inc_nn (by with_reducible assumption) (by with_reducible assumption)), trivial⟩ (dif_lt (by with_reducible assumption))
theorem p_X2_take {h : HI} {g : HL} (hC : CI h) {x1 : Int32} {x2 : Int32} {x3 : Int32}   : w_X2_take x1 x2 x3 h g (fun h' g' => JJ (SFit) h h') := by
  unfold w_X2_take
  have hJ : JJ (SFit) h h := JJ.rf
  intro h_2 e_h_2
  have hJ := hJ.hu e_h_2 (by unfold SFit; omega)
  intro h_7 e_h_7
  have hJ := hJ.hu e_h_7 (by unfold SFit; omega)
  refine c_i (p_atJ hC hJ nSFit gs_8) ?_
  rintro _ _ _ ⟨rfl, rfl, rfl⟩
  refine lpE_intro (fun ⟨x2_q, x3_q, x4_q, x5_q, h_q, g_q⟩ => JJ (SFit) h h_q ∧ x2 = x2_q ∧ x3 = x3_q ∧ (tat h 8 (h_7 85 6) (2 : Int32)) = x4_q ∧ ¬ x5_q < 0 ∧ True) (fun ⟨x2_q, x3_q, x4_q, x5_q, h_q, g_q⟩ => dif (6 : Int32) x5_q) ?_ _ ⟨hJ, rfl, rfl, rfl, nn0, trivial⟩
  rintro ⟨x2_1, x3_1, x4_1, x5_1, h_1, g_1⟩ K1 ⟨hJ, rfl, rfl, rfl, i1_0, -⟩ hK1
  unfold F_X2_take_30; dsimp only; unfold b_X2_take_30
  refine ⟨fun c => ?_, fun c => ?_⟩
  · skip
    exact hJ
  · skip
    refine ⟨fun c => ?_, fun c => ?_⟩
    · skip
      exact hJ
    · skip
      refine c_i (p_atJ hC hJ nSFit gs_8) ?_
      rintro _ _ _ ⟨rfl, rfl, rfl⟩
      refine ⟨fun c => ?_, fun c => ?_⟩
      · skip
        unfold j_X2_take_84
        refine and_have (by first | with_reducible assumption | exact vin (by with_reducible assumption) (by with_reducible assumption) (by decide) | exact vinc (by with_reducible assumption) (by with_reducible assumption) (by decide) | exact vinw (by with_reducible assumption) (by with_reducible assumption) (by decide) (by decide) | exact vinl (by with_reducible assumption) (by with_reducible assumption) (by decide) | exact v60a (by with_reducible assumption) (by with_reducible assumption) | exact v60b (by with_reducible assumption) (by with_reducible assumption) | exact v60b' (by with_reducible assumption) (by with_reducible assumption) | exact v60c (by with_reducible assumption) (by with_reducible assumption) | exact v60d (by with_reducible assumption) (by with_reducible assumption)) (fun hv => ?_)
        intro h_84 e_h_84
        have hJ := hJ.hu e_h_84 (by unfold SFit; omega)
        refine and_have (by first | with_reducible assumption | exact vin (by with_reducible assumption) (by with_reducible assumption) (by decide) | exact vinc (by with_reducible assumption) (by with_reducible assumption) (by decide) | exact vinw (by with_reducible assumption) (by with_reducible assumption) (by decide) (by decide) | exact vinl (by with_reducible assumption) (by with_reducible assumption) (by decide) | exact v60a (by with_reducible assumption) (by with_reducible assumption) | exact v60b (by with_reducible assumption) (by with_reducible assumption) | exact v60b' (by with_reducible assumption) (by with_reducible assumption) | exact v60c (by with_reducible assumption) (by with_reducible assumption) | exact v60d (by with_reducible assumption) (by with_reducible assumption)) (fun hv => ?_)
        refine c_v (p_X7_find (hC.jj hJ nSFit) ) ?_
        rintro h_96 g_96 hJ2
        have hJ := hJ.tr (hJ2.mo (fun q hq => by unfold SSz at hq; unfold SFit; omega))
        refine ⟨fun c => ?_, fun c => ?_⟩
        · skip
          unfold j_X2_take_114
          refine and_have (by first | with_reducible assumption | exact vin (by with_reducible assumption) (by with_reducible assumption) (by decide) | exact vinc (by with_reducible assumption) (by with_reducible assumption) (by decide) | exact vinw (by with_reducible assumption) (by with_reducible assumption) (by decide) (by decide) | exact vinl (by with_reducible assumption) (by with_reducible assumption) (by decide) | exact v60a (by with_reducible assumption) (by with_reducible assumption) | exact v60b (by with_reducible assumption) (by with_reducible assumption) | exact v60b' (by with_reducible assumption) (by with_reducible assumption) | exact v60c (by with_reducible assumption) (by with_reducible assumption) | exact v60d (by with_reducible assumption) (by with_reducible assumption)) (fun hv => ?_)
          intro h_127 e_h_127
          have hJ := hJ.hu e_h_127 (by unfold SFit; omega)
          refine and_have (by first | with_reducible assumption | exact vin (by with_reducible assumption) (by with_reducible assumption) (by decide) | exact vinc (by with_reducible assumption) (by with_reducible assumption) (by decide) | exact vinw (by with_reducible assumption) (by with_reducible assumption) (by decide) (by decide) | exact vinl (by with_reducible assumption) (by with_reducible assumption) (by decide) | exact v60a (by with_reducible assumption) (by with_reducible assumption) | exact v60b (by with_reducible assumption) (by with_reducible assumption) | exact v60b' (by with_reducible assumption) (by with_reducible assumption) | exact v60c (by with_reducible assumption) (by with_reducible assumption) | exact v60d (by with_reducible assumption) (by with_reducible assumption)) (fun hv => ?_)
          intro h_141 e_h_141
          have hJ := hJ.hu e_h_141 (by unfold SFit; omega)
          rintro _ rfl
          exact hK1 _ ⟨hJ, rfl, rfl, rfl, (inc_nn (by with_reducible assumption) (by with_reducible assumption)), trivial⟩ (dif_lt (by with_reducible assumption))
        · skip
          intro h_111 e_h_111
          have hJ := hJ.hu e_h_111 (by unfold SFit; omega)
          unfold j_X2_take_114
          refine and_have (by first | with_reducible assumption | exact vin (by with_reducible assumption) (by with_reducible assumption) (by decide) | exact vinc (by with_reducible assumption) (by with_reducible assumption) (by decide) | exact vinw (by with_reducible assumption) (by with_reducible assumption) (by decide) (by decide) | exact vinl (by with_reducible assumption) (by with_reducible assumption) (by decide) | exact v60a (by with_reducible assumption) (by with_reducible assumption) | exact v60b (by with_reducible assumption) (by with_reducible assumption) | exact v60b' (by with_reducible assumption) (by with_reducible assumption) | exact v60c (by with_reducible assumption) (by with_reducible assumption) | exact v60d (by with_reducible assumption) (by with_reducible assumption)) (fun hv => ?_)
          intro h_127 e_h_127
          have hJ := hJ.hu e_h_127 (by unfold SFit; omega)
          refine and_have (by first | with_reducible assumption | exact vin (by with_reducible assumption) (by with_reducible assumption) (by decide) | exact vinc (by with_reducible assumption) (by with_reducible assumption) (by decide) | exact vinw (by with_reducible assumption) (by with_reducible assumption) (by decide) (by decide) | exact vinl (by with_reducible assumption) (by with_reducible assumption) (by decide) | exact v60a (by with_reducible assumption) (by with_reducible assumption) | exact v60b (by with_reducible assumption) (by with_reducible assumption) | exact v60b' (by with_reducible assumption) (by with_reducible assumption) | exact v60c (by with_reducible assumption) (by with_reducible assumption) | exact v60d (by with_reducible assumption) (by with_reducible assumption)) (fun hv => ?_)
          intro h_141 e_h_141
          have hJ := hJ.hu e_h_141 (by unfold SFit; omega)
          rintro _ rfl
          exact hK1 _ ⟨hJ, rfl, rfl, rfl, (inc_nn (by with_reducible assumption) (by with_reducible assumption)), trivial⟩ (dif_lt (by with_reducible assumption))
      · skip
        unfold j_X2_take_84
        refine and_have (by first | with_reducible assumption | exact vin (by with_reducible assumption) (by with_reducible assumption) (by decide) | exact vinc (by with_reducible assumption) (by with_reducible assumption) (by decide) | exact vinw (by with_reducible assumption) (by with_reducible assumption) (by decide) (by decide) | exact vinl (by with_reducible assumption) (by with_reducible assumption) (by decide) | exact v60a (by with_reducible assumption) (by with_reducible assumption) | exact v60b (by with_reducible assumption) (by with_reducible assumption) | exact v60b' (by with_reducible assumption) (by with_reducible assumption) | exact v60c (by with_reducible assumption) (by with_reducible assumption) | exact v60d (by with_reducible assumption) (by with_reducible assumption)) (fun hv => ?_)
        intro h_84 e_h_84
        have hJ := hJ.hu e_h_84 (by unfold SFit; omega)
        refine and_have (by first | with_reducible assumption | exact vin (by with_reducible assumption) (by with_reducible assumption) (by decide) | exact vinc (by with_reducible assumption) (by with_reducible assumption) (by decide) | exact vinw (by with_reducible assumption) (by with_reducible assumption) (by decide) (by decide) | exact vinl (by with_reducible assumption) (by with_reducible assumption) (by decide) | exact v60a (by with_reducible assumption) (by with_reducible assumption) | exact v60b (by with_reducible assumption) (by with_reducible assumption) | exact v60b' (by with_reducible assumption) (by with_reducible assumption) | exact v60c (by with_reducible assumption) (by with_reducible assumption) | exact v60d (by with_reducible assumption) (by with_reducible assumption)) (fun hv => ?_)
        refine c_v (p_X7_find (hC.jj hJ nSFit) ) ?_
        rintro h_96 g_96 hJ2
        have hJ := hJ.tr (hJ2.mo (fun q hq => by unfold SSz at hq; unfold SFit; omega))
        refine ⟨fun c => ?_, fun c => ?_⟩
        · skip
          unfold j_X2_take_114
          refine and_have (by first | with_reducible assumption | exact vin (by with_reducible assumption) (by with_reducible assumption) (by decide) | exact vinc (by with_reducible assumption) (by with_reducible assumption) (by decide) | exact vinw (by with_reducible assumption) (by with_reducible assumption) (by decide) (by decide) | exact vinl (by with_reducible assumption) (by with_reducible assumption) (by decide) | exact v60a (by with_reducible assumption) (by with_reducible assumption) | exact v60b (by with_reducible assumption) (by with_reducible assumption) | exact v60b' (by with_reducible assumption) (by with_reducible assumption) | exact v60c (by with_reducible assumption) (by with_reducible assumption) | exact v60d (by with_reducible assumption) (by with_reducible assumption)) (fun hv => ?_)
          intro h_127 e_h_127
          have hJ := hJ.hu e_h_127 (by unfold SFit; omega)
          refine and_have (by first | with_reducible assumption | exact vin (by with_reducible assumption) (by with_reducible assumption) (by decide) | exact vinc (by with_reducible assumption) (by with_reducible assumption) (by decide) | exact vinw (by with_reducible assumption) (by with_reducible assumption) (by decide) (by decide) | exact vinl (by with_reducible assumption) (by with_reducible assumption) (by decide) | exact v60a (by with_reducible assumption) (by with_reducible assumption) | exact v60b (by with_reducible assumption) (by with_reducible assumption) | exact v60b' (by with_reducible assumption) (by with_reducible assumption) | exact v60c (by with_reducible assumption) (by with_reducible assumption) | exact v60d (by with_reducible assumption) (by with_reducible assumption)) (fun hv => ?_)
          intro h_141 e_h_141
          have hJ := hJ.hu e_h_141 (by unfold SFit; omega)
          rintro _ rfl
          exact hK1 _ ⟨hJ, rfl, rfl, rfl, (inc_nn (by with_reducible assumption) (by with_reducible assumption)), trivial⟩ (dif_lt (by with_reducible assumption))
        · skip
          intro h_111 e_h_111
          have hJ := hJ.hu e_h_111 (by unfold SFit; omega)
          unfold j_X2_take_114
          refine and_have (by first | with_reducible assumption | exact vin (by with_reducible assumption) (by with_reducible assumption) (by decide) | exact vinc (by with_reducible assumption) (by with_reducible assumption) (by decide) | exact vinw (by with_reducible assumption) (by with_reducible assumption) (by decide) (by decide) | exact vinl (by with_reducible assumption) (by with_reducible assumption) (by decide) | exact v60a (by with_reducible assumption) (by with_reducible assumption) | exact v60b (by with_reducible assumption) (by with_reducible assumption) | exact v60b' (by with_reducible assumption) (by with_reducible assumption) | exact v60c (by with_reducible assumption) (by with_reducible assumption) | exact v60d (by with_reducible assumption) (by with_reducible assumption)) (fun hv => ?_)
          intro h_127 e_h_127
          have hJ := hJ.hu e_h_127 (by unfold SFit; omega)
          refine and_have (by first | with_reducible assumption | exact vin (by with_reducible assumption) (by with_reducible assumption) (by decide) | exact vinc (by with_reducible assumption) (by with_reducible assumption) (by decide) | exact vinw (by with_reducible assumption) (by with_reducible assumption) (by decide) (by decide) | exact vinl (by with_reducible assumption) (by with_reducible assumption) (by decide) | exact v60a (by with_reducible assumption) (by with_reducible assumption) | exact v60b (by with_reducible assumption) (by with_reducible assumption) | exact v60b' (by with_reducible assumption) (by with_reducible assumption) | exact v60c (by with_reducible assumption) (by with_reducible assumption) | exact v60d (by with_reducible assumption) (by with_reducible assumption)) (fun hv => ?_)
          intro h_141 e_h_141
          have hJ := hJ.hu e_h_141 (by unfold SFit; omega)
          rintro _ rfl
          exact hK1 _ ⟨hJ, rfl, rfl, rfl, (inc_nn (by with_reducible assumption) (by with_reducible assumption)), trivial⟩ (dif_lt (by with_reducible assumption))
theorem p_X2_addUp {h : HI} {g : HL} (hC : CI h) {x1 : Int32}   : w_X2_addUp x1 h g (fun h' g' => JJ (SFit) h h') := by
  unfold w_X2_addUp
  have hJ : JJ (SFit) h h := JJ.rf
  intro h_2 e_h_2
  have hJ := hJ.hu e_h_2 (by unfold SFit; omega)
  intro h_7 e_h_7
  have hJ := hJ.hu e_h_7 (by unfold SFit; omega)
  refine c_i (p_atJ hC hJ nSFit gs_8) ?_
  rintro _ _ _ ⟨rfl, rfl, rfl⟩
  refine lpE_intro (fun ⟨x1_q, x2_q, x3_q, h_q, g_q⟩ => JJ (SFit) h h_q ∧ x1 = x1_q ∧ (tat h 8 (h_7 85 6) (2 : Int32)) = x2_q ∧ ¬ x3_q < 0 ∧ True) (fun ⟨x1_q, x2_q, x3_q, h_q, g_q⟩ => dif (6 : Int32) x3_q) ?_ _ ⟨hJ, rfl, rfl, nn0, trivial⟩
  rintro ⟨x1_1, x2_1, x3_1, h_1, g_1⟩ K1 ⟨hJ, rfl, rfl, i1_0, -⟩ hK1
  unfold F_X2_addUp_28; dsimp only; unfold b_X2_addUp_28
  refine ⟨fun c => ?_, fun c => ?_⟩
  · skip
    exact hJ
  · skip
    refine ⟨fun c => ?_, fun c => ?_⟩
    · skip
      exact hJ
    · skip
      refine and_have (by first | with_reducible assumption | exact vin (by with_reducible assumption) (by with_reducible assumption) (by decide) | exact vinc (by with_reducible assumption) (by with_reducible assumption) (by decide) | exact vinw (by with_reducible assumption) (by with_reducible assumption) (by decide) (by decide) | exact vinl (by with_reducible assumption) (by with_reducible assumption) (by decide) | exact v60a (by with_reducible assumption) (by with_reducible assumption) | exact v60b (by with_reducible assumption) (by with_reducible assumption) | exact v60b' (by with_reducible assumption) (by with_reducible assumption) | exact v60c (by with_reducible assumption) (by with_reducible assumption) | exact v60d (by with_reducible assumption) (by with_reducible assumption)) (fun hv => ?_)
      refine c_i (p_X4_wornOf (hC.jj hJ nSFit) ) ?_
      rintro r_50 _ g_50 rfl
      refine c_i (p_atJ hC hJ nSFit gs_8) ?_
      rintro _ _ _ ⟨rfl, rfl, rfl⟩
      refine ⟨fun c => ?_, fun c => ?_⟩
      · skip
        unfold j_X2_addUp_85
        refine ⟨fun c => ?_, fun c => ?_⟩
        · skip
          refine and_have (by first | with_reducible assumption | exact vin (by with_reducible assumption) (by with_reducible assumption) (by decide) | exact vinc (by with_reducible assumption) (by with_reducible assumption) (by decide) | exact vinw (by with_reducible assumption) (by with_reducible assumption) (by decide) (by decide) | exact vinl (by with_reducible assumption) (by with_reducible assumption) (by decide) | exact v60a (by with_reducible assumption) (by with_reducible assumption) | exact v60b (by with_reducible assumption) (by with_reducible assumption) | exact v60b' (by with_reducible assumption) (by with_reducible assumption) | exact v60c (by with_reducible assumption) (by with_reducible assumption) | exact v60d (by with_reducible assumption) (by with_reducible assumption)) (fun hv => ?_)
          unfold j_X2_addUp_118
          intro h_119 e_h_119
          have hJ := hJ.hu e_h_119 (by unfold SFit; omega)
          refine ⟨fun c => ?_, fun c => ?_⟩
          · skip
            refine and_have (by first | with_reducible assumption | exact vin (by with_reducible assumption) (by with_reducible assumption) (by decide) | exact vinc (by with_reducible assumption) (by with_reducible assumption) (by decide) | exact vinw (by with_reducible assumption) (by with_reducible assumption) (by decide) (by decide) | exact vinl (by with_reducible assumption) (by with_reducible assumption) (by decide) | exact v60a (by with_reducible assumption) (by with_reducible assumption) | exact v60b (by with_reducible assumption) (by with_reducible assumption) | exact v60b' (by with_reducible assumption) (by with_reducible assumption) | exact v60c (by with_reducible assumption) (by with_reducible assumption) | exact v60d (by with_reducible assumption) (by with_reducible assumption)) (fun hv => ?_)
            unfold j_X2_addUp_153
            intro h_154 e_h_154
            have hJ := hJ.hu e_h_154 (by unfold SFit; omega)
            rintro _ rfl
            exact hK1 _ ⟨hJ, rfl, rfl, (inc_nn (by with_reducible assumption) (by with_reducible assumption)), trivial⟩ (dif_lt (by with_reducible assumption))
          · exact absN c
        · exact absN c
      · skip
        unfold j_X2_addUp_85
        refine ⟨fun c => ?_, fun c => ?_⟩
        · exact absI c
        · skip
          refine and_have (by first | with_reducible assumption | exact vin (by with_reducible assumption) (by with_reducible assumption) (by decide) | exact vinc (by with_reducible assumption) (by with_reducible assumption) (by decide) | exact vinw (by with_reducible assumption) (by with_reducible assumption) (by decide) (by decide) | exact vinl (by with_reducible assumption) (by with_reducible assumption) (by decide) | exact v60a (by with_reducible assumption) (by with_reducible assumption) | exact v60b (by with_reducible assumption) (by with_reducible assumption) | exact v60b' (by with_reducible assumption) (by with_reducible assumption) | exact v60c (by with_reducible assumption) (by with_reducible assumption) | exact v60d (by with_reducible assumption) (by with_reducible assumption)) (fun hv => ?_)
          unfold j_X2_addUp_118
          intro h_119 e_h_119
          have hJ := hJ.hu e_h_119 (by unfold SFit; omega)
          refine ⟨fun c => ?_, fun c => ?_⟩
          · exact absI c
          · skip
            refine and_have (by first | with_reducible assumption | exact vin (by with_reducible assumption) (by with_reducible assumption) (by decide) | exact vinc (by with_reducible assumption) (by with_reducible assumption) (by decide) | exact vinw (by with_reducible assumption) (by with_reducible assumption) (by decide) (by decide) | exact vinl (by with_reducible assumption) (by with_reducible assumption) (by decide) | exact v60a (by with_reducible assumption) (by with_reducible assumption) | exact v60b (by with_reducible assumption) (by with_reducible assumption) | exact v60b' (by with_reducible assumption) (by with_reducible assumption) | exact v60c (by with_reducible assumption) (by with_reducible assumption) | exact v60d (by with_reducible assumption) (by with_reducible assumption)) (fun hv => ?_)
            unfold j_X2_addUp_153
            intro h_154 e_h_154
            have hJ := hJ.hu e_h_154 (by unfold SFit; omega)
            rintro _ rfl
            exact hK1 _ ⟨hJ, rfl, rfl, (inc_nn (by with_reducible assumption) (by with_reducible assumption)), trivial⟩ (dif_lt (by with_reducible assumption))
theorem p_X2_holdIn {h : HI} {g : HL} (hC : CI h) {x1 : Int32}   : w_X2_holdIn x1 h g (fun r h' g' => JJ (SFit) h h') := by
  unfold w_X2_holdIn
  have hJ : JJ (SFit) h h := JJ.rf
  refine ⟨fun c => ?_, fun c => ?_⟩
  · skip
    refine c_v (p_X2_addUp (hC.jj hJ nSFit) ) ?_
    rintro h_11 g_11 hJ2
    have hJ := hJ.tr (hJ2)
    refine c_i (p_atJ hC hJ nSFit gs_8) ?_
    rintro _ _ _ ⟨rfl, rfl, rfl⟩
    refine ⟨fun c => ?_, fun c => ?_⟩
    · skip
      exact hJ
    · skip
      refine c_i (p_atJ hC hJ nSFit gs_8) ?_
      rintro _ _ _ ⟨rfl, rfl, rfl⟩
      refine ⟨fun c => ?_, fun c => ?_⟩
      · skip
        exact hJ
      · skip
        exact hJ
  · skip
    exact hJ
theorem p_J6_bitCount_0f7a4 {h : HI} {g : HL} (hC : CI h) {x0 : Int32}   : w_J6_bitCount_0f7a4 x0 h g (fun r h' g' => h = h' ∧ g = g') := by
  unfold w_J6_bitCount_0f7a4
  intro x0_9 e_x0_9
  intro x0_23 e_x0_23
  intro x0_33 e_x0_33
  intro x0_40 e_x0_40
  intro x0_47 e_x0_47
  exact ⟨rfl, rfl⟩
theorem p_X3_parts {h : HI} {g : HL} (hC : CI h) {x1 : Int32}   : w_X3_parts x1 h g (fun r h' g' => h = h' ∧ g = g') := by
  unfold w_X3_parts
  refine lpE_intro (fun ⟨x1_q, x3_q, x4_q, h_q, g_q⟩ => x1 = x1_q ∧ (4 : Int32) = x3_q ∧ h = h_q ∧ g = g_q ∧ ¬ x4_q < 0 ∧ True) (fun ⟨x1_q, x3_q, x4_q, h_q, g_q⟩ => dif x3_q x4_q) ?_ _ ⟨rfl, rfl, rfl, rfl, nn0, trivial⟩
  rintro ⟨x1_1, x3_1, x4_1, h_1, g_1⟩ K1 ⟨rfl, rfl, rfl, rfl, i1_0, -⟩ hK1
  unfold F_X3_parts_11; dsimp only; unfold b_X3_parts_11
  refine ⟨fun c => ?_, fun c => ?_⟩
  · skip
    exact ⟨rfl, rfl⟩
  · skip
    refine and_have (by first | with_reducible assumption | exact vin (by with_reducible assumption) (by with_reducible assumption) (by decide) | exact vinc (by with_reducible assumption) (by with_reducible assumption) (by decide) | exact vinw (by with_reducible assumption) (by with_reducible assumption) (by decide) (by decide) | exact vinl (by with_reducible assumption) (by with_reducible assumption) (by decide) | exact v60a (by with_reducible assumption) (by with_reducible assumption) | exact v60b (by with_reducible assumption) (by with_reducible assumption) | exact v60b' (by with_reducible assumption) (by with_reducible assumption) | exact v60c (by with_reducible assumption) (by with_reducible assumption) | exact v60d (by with_reducible assumption) (by with_reducible assumption)) (fun hv => ?_)
    rintro _ rfl
    refine ⟨fun c => ?_, fun c => ?_⟩
    · skip
      unfold j_X3_parts_41
      rintro _ rfl
      exact hK1 _ ⟨rfl, rfl, rfl, rfl, (inc_nn (by with_reducible assumption) (by with_reducible assumption)), trivial⟩ (dif_lt (by with_reducible assumption))
    · skip
      refine ⟨fun c => ?_, fun c => ?_⟩
      · skip
        unfold j_X3_parts_41
        rintro _ rfl
        exact hK1 _ ⟨rfl, rfl, rfl, rfl, (inc_nn (by with_reducible assumption) (by with_reducible assumption)), trivial⟩ (dif_lt (by with_reducible assumption))
      · skip
        exact ⟨rfl, rfl⟩
theorem p_X3_after {h : HI} {g : HL} (hC : CI h) {x1 : Int32} {x2 : Int32}   : w_X3_after x1 x2 h g (fun r h' g' => h = h' ∧ g = g') := by
  unfold w_X3_after
  refine c_w (fun c c' => ?_) (fun c => ?_)
  · skip
    refine ⟨fun c => ?_, fun c => ?_⟩
    · exact absI c
    · skip
      refine c_w (fun c c' => ?_) (fun c => ?_)
      · skip
        refine ⟨fun c => ?_, fun c => ?_⟩
        · skip
          refine and_have (by exact vinw1 (by with_reducible assumption) (by with_reducible assumption) (by decide) (by decide)) (fun hv => ?_)
          refine and_have (by first | with_reducible assumption | exact vin (by with_reducible assumption) (by with_reducible assumption) (by decide) | exact vinc (by with_reducible assumption) (by with_reducible assumption) (by decide) | exact vinw (by with_reducible assumption) (by with_reducible assumption) (by decide) (by decide) | exact vinl (by with_reducible assumption) (by with_reducible assumption) (by decide) | exact v60a (by with_reducible assumption) (by with_reducible assumption) | exact v60b (by with_reducible assumption) (by with_reducible assumption) | exact v60b' (by with_reducible assumption) (by with_reducible assumption) | exact v60c (by with_reducible assumption) (by with_reducible assumption) | exact v60d (by with_reducible assumption) (by with_reducible assumption)) (fun hv => ?_)
          exact ⟨rfl, rfl⟩
        · exact absI c
      · skip
        refine ⟨fun c => ?_, fun c => ?_⟩
        · exact absN c
        · skip
          exact ⟨rfl, rfl⟩
  · skip
    refine ⟨fun c => ?_, fun c => ?_⟩
    · skip
      exact ⟨rfl, rfl⟩
    · exact absN c
theorem p_X3_open {h : HI} {g : HL} (hC : CI h) {x1 : Int32} {x2 : Int32}   : w_X3_open x1 x2 h g (fun r h' g' => h = h' ∧ g = g') := by
  unfold w_X3_open
  refine c_i (p_at hC gs_12) ?_
  rintro _ _ _ ⟨rfl, rfl, rfl⟩
  refine c_w (fun c c' => ?_) (fun c => ?_)
  · skip
    refine ⟨fun c => ?_, fun c => ?_⟩
    · exact absI c
    · skip
      refine and_have (by first | with_reducible assumption | exact vin (by with_reducible assumption) (by with_reducible assumption) (by decide) | exact vinc (by with_reducible assumption) (by with_reducible assumption) (by decide) | exact vinw (by with_reducible assumption) (by with_reducible assumption) (by decide) (by decide) | exact vinl (by with_reducible assumption) (by with_reducible assumption) (by decide) | exact v60a (by with_reducible assumption) (by with_reducible assumption) | exact v60b (by with_reducible assumption) (by with_reducible assumption) | exact v60b' (by with_reducible assumption) (by with_reducible assumption) | exact v60c (by with_reducible assumption) (by with_reducible assumption) | exact v60d (by with_reducible assumption) (by with_reducible assumption)) (fun hv => ?_)
      exact ⟨rfl, rfl⟩
  · skip
    refine ⟨fun c => ?_, fun c => ?_⟩
    · skip
      exact ⟨rfl, rfl⟩
    · exact absN c
theorem p_X3_mostOf {h : HI} {g : HL} (hC : CI h) {x1 : Int32} {x2 : Int32}   : w_X3_mostOf x1 x2 h g (fun r h' g' => h = h' ∧ g = g') := by
  unfold w_X3_mostOf
  refine c_i (p_X3_after hC ) ?_
  rintro r_3 _ _ ⟨rfl, rfl⟩
  refine c_i (p_X3_open hC ) ?_
  rintro r_10 _ _ ⟨rfl, rfl⟩
  refine lpE_intro (fun ⟨x1_q, x2_q, x3_q, x4_q, x5_q, h_q, g_q⟩ => x1 = x1_q ∧ x2 = x2_q ∧ r_10 = x4_q ∧ h = h_q ∧ g = g_q ∧ True) (fun ⟨x1_q, x2_q, x3_q, x4_q, x5_q, h_q, g_q⟩ => dif (h 97 5) x5_q) ?_ _ ⟨rfl, rfl, rfl, rfl, rfl, trivial⟩
  rintro ⟨x1_1, x2_1, x3_1, x4_1, x5_1, h_1, g_1⟩ K1 ⟨rfl, rfl, rfl, rfl, rfl, -⟩ hK1
  unfold F_X3_mostOf_18; dsimp only; unfold b_X3_mostOf_18
  refine ⟨fun c => ?_, fun c => ?_⟩
  · skip
    exact ⟨rfl, rfl⟩
  · skip
    refine ⟨fun c => ?_, fun c => ?_⟩
    · skip
      unfold j_X3_mostOf_54
      rintro _ rfl
      exact hK1 _ ⟨rfl, rfl, rfl, rfl, rfl, trivial⟩ (dif_lt (by with_reducible assumption))
    · skip
      refine c_i (p_X3_after hC ) ?_
      rintro r_47 _ _ ⟨rfl, rfl⟩
      rintro _ rfl
      unfold j_X3_mostOf_54
      rintro _ rfl
      exact hK1 _ ⟨rfl, rfl, rfl, rfl, rfl, trivial⟩ (dif_lt (by with_reducible assumption))
theorem p_X3_mostYears {h : HI} {g : HL} (hC : CI h)    : w_X3_mostYears h g (fun r h' g' => h = h' ∧ g = g') := by
  unfold w_X3_mostYears
  refine and_have (by exact vp_in_iff.mpr (by decide)) (fun hv => ?_)
  refine and_have (by exact vp_in_iff.mpr (by decide)) (fun hv => ?_)
  exact ⟨rfl, rfl⟩
theorem p_X3_givenTo {h : HI} {g : HL} (hC : CI h) {x1 : Int32} {x2 : Int32}   : w_X3_givenTo x1 x2 h g (fun r h' g' => h = h' ∧ g = g') := by
  unfold w_X3_givenTo
  refine c_i (p_X3_after hC ) ?_
  rintro r_3 _ _ ⟨rfl, rfl⟩
  refine c_i (p_X3_mostYears hC ) ?_
  rintro r_7 _ _ ⟨rfl, rfl⟩
  refine ⟨fun c => ?_, fun c => ?_⟩
  · skip
    refine c_i (p_X3_open hC ) ?_
    rintro r_18 _ _ ⟨rfl, rfl⟩
    refine lpE_intro (fun ⟨x1_q, x2_q, x3_q, x4_q, h_q, g_q⟩ => x1 = x1_q ∧ x2 = x2_q ∧ r_18 = x3_q ∧ h = h_q ∧ g = g_q ∧ True) (fun ⟨x1_q, x2_q, x3_q, x4_q, h_q, g_q⟩ => dif (h 97 5) x4_q) ?_ _ ⟨rfl, rfl, rfl, rfl, rfl, trivial⟩
    rintro ⟨x1_1, x2_1, x3_1, x4_1, h_1, g_1⟩ K1 ⟨rfl, rfl, rfl, rfl, rfl, -⟩ hK1
    unfold F_X3_givenTo_25; dsimp only; unfold b_X3_givenTo_25
    refine ⟨fun c => ?_, fun c => ?_⟩
    · skip
      exact ⟨rfl, rfl⟩
    · skip
      refine ⟨fun c => ?_, fun c => ?_⟩
      · skip
        unfold j_X3_givenTo_65
        rintro _ rfl
        exact hK1 _ ⟨rfl, rfl, rfl, rfl, rfl, trivial⟩ (dif_lt (by with_reducible assumption))
      · skip
        refine c_i (p_X3_after hC ) ?_
        rintro r_52 _ _ ⟨rfl, rfl⟩
        refine c_i (p_X3_mostYears hC ) ?_
        rintro r_56 _ _ ⟨rfl, rfl⟩
        refine ⟨fun c => ?_, fun c => ?_⟩
        · skip
          unfold j_X3_givenTo_65
          rintro _ rfl
          exact hK1 _ ⟨rfl, rfl, rfl, rfl, rfl, trivial⟩ (dif_lt (by with_reducible assumption))
        · skip
          exact ⟨rfl, rfl⟩
  · skip
    exact ⟨rfl, rfl⟩
theorem p_X3_spareOf {h : HI} {g : HL} (hC : CI h) {x1 : Int32}   : w_X3_spareOf x1 h g (fun r h' g' => h = h' ∧ g = g') := by
  unfold w_X3_spareOf
  refine lpE_intro (fun ⟨x1_q, x2_q, x3_q, h_q, g_q⟩ => x1 = x1_q ∧ h = h_q ∧ g = g_q ∧ True) (fun ⟨x1_q, x2_q, x3_q, h_q, g_q⟩ => dif (h 12 3) x3_q) ?_ _ ⟨rfl, rfl, rfl, trivial⟩
  rintro ⟨x1_1, x2_1, x3_1, h_1, g_1⟩ K1 ⟨rfl, rfl, rfl, -⟩ hK1
  unfold F_X3_spareOf_4; dsimp only; unfold b_X3_spareOf_4
  refine c_i p_rows ?_
  rintro _ _ _ ⟨rfl, rfl, rfl⟩
  refine ⟨fun c => ?_, fun c => ?_⟩
  · skip
    exact ⟨rfl, rfl⟩
  · skip
    refine c_i (p_X3_givenTo hC ) ?_
    rintro r_21 _ _ ⟨rfl, rfl⟩
    refine ⟨fun c => ?_, fun c => ?_⟩
    · skip
      refine ⟨fun c => ?_, fun c => ?_⟩
      · skip
        unfold j_X3_spareOf_47
        rintro _ rfl
        exact hK1 _ ⟨rfl, rfl, rfl, trivial⟩ (dif_lt (by with_reducible assumption))
      · skip
        rintro _ rfl
        unfold j_X3_spareOf_47
        rintro _ rfl
        exact hK1 _ ⟨rfl, rfl, rfl, trivial⟩ (dif_lt (by with_reducible assumption))
    · skip
      exact ⟨rfl, rfl⟩
theorem p_X5_knows {h : HI} {g : HL} (hC : CI h) {x0 : Int32} {x1 : Int32} {x2 : Int32}   : w_X5_knows x0 x1 x2 h g (fun r h' g' => h = h' ∧ g = g') := by
  unfold w_X5_knows
  refine ⟨fun c => ?_, fun c => ?_⟩
  · skip
    exact ⟨rfl, rfl⟩
  · skip
    exact ⟨rfl, rfl⟩
theorem p_X5_chooseRuns {h : HI} {g : HL} (hC : CI h)    : w_X5_chooseRuns h g (fun h' g' => JJ (SO 123) h h') := by
  unfold w_X5_chooseRuns
  have hJ : JJ (SO 123) h h := JJ.rf
  refine lpE_intro (fun ⟨x1_q, h_q, g_q⟩ => JJ (SO 123) h h_q ∧ ¬ x1_q < 0 ∧ True) (fun ⟨x1_q, h_q, g_q⟩ => dil (15 : Int32) x1_q) ?_ _ ⟨hJ, nn0, trivial⟩
  rintro ⟨x1_1, h_1, g_1⟩ K1 ⟨hJ, i1_0, -⟩ hK1
  unfold F_X5_chooseRuns_2; dsimp only; unfold b_X5_chooseRuns_2
  refine ⟨fun c => ?_, fun c => ?_⟩
  · skip
    exact hJ
  · skip
    refine and_have (by exact vinj (by with_reducible assumption) (by with_reducible assumption) (by decide)) (fun hv => ?_)
    intro h_14 e_h_14
    have hJ := hJ.hu e_h_14 (by unfold SO; omega)
    refine lpE_intro (fun ⟨x1_q, x2_q, h_q, g_q⟩ => JJ (SO 123) h h_q ∧ x1_1 = x1_q ∧ True) (fun ⟨x1_q, x2_q, h_q, g_q⟩ => dif (4 : Int32) x2_q) ?_ _ ⟨hJ, rfl, trivial⟩
    rintro ⟨x1_2, x2_2, h_2, g_2⟩ K2 ⟨hJ, rfl, -⟩ hK2
    unfold F_X5_chooseRuns_17; dsimp only; unfold b_X5_chooseRuns_17
    refine ⟨fun c => ?_, fun c => ?_⟩
    · skip
      rintro _ rfl
      exact hK1 _ ⟨hJ, (inc_nj (by with_reducible assumption) (by with_reducible assumption) (by decide)), trivial⟩ (dil_lt (by with_reducible assumption) (by decide))
    · skip
      refine ⟨fun c => ?_, fun c => ?_⟩
      · skip
        unfold j_X5_chooseRuns_52
        rintro _ rfl
        exact hK2 _ ⟨hJ, rfl, trivial⟩ (dif_lt (by with_reducible assumption))
      · skip
        refine and_have (by exact vinj (by with_reducible assumption) (by with_reducible assumption) (by decide)) (fun hv => ?_)
        refine c_i (p_atJ hC hJ (nS_O (by decide)) gs_22) ?_
        rintro _ _ _ ⟨rfl, rfl, rfl⟩
        refine and_have (by exact vinj (by with_reducible assumption) (by with_reducible assumption) (by decide)) (fun hv => ?_)
        intro h_51 e_h_51
        have hJ := hJ.hu e_h_51 (by unfold SO; omega)
        unfold j_X5_chooseRuns_52
        rintro _ rfl
        exact hK2 _ ⟨hJ, rfl, trivial⟩ (dif_lt (by with_reducible assumption))
theorem p_X5_chooseYears {h : HI} {g : HL} (hC : CI h)    : w_X5_chooseYears h g (fun h' g' => JJ (SO 124) h h') := by
  unfold w_X5_chooseYears
  have hJ : JJ (SO 124) h h := JJ.rf
  refine lpE_intro (fun ⟨x1_q, h_q, g_q⟩ => JJ (SO 124) h h_q ∧ ¬ x1_q < 0 ∧ True) (fun ⟨x1_q, h_q, g_q⟩ => dif (8 : Int32) x1_q) ?_ _ ⟨hJ, nn0, trivial⟩
  rintro ⟨x1_1, h_1, g_1⟩ K1 ⟨hJ, i1_0, -⟩ hK1
  unfold F_X5_chooseYears_2; dsimp only; unfold b_X5_chooseYears_2
  refine ⟨fun c => ?_, fun c => ?_⟩
  · skip
    exact hJ
  · skip
    refine and_have (by first | with_reducible assumption | exact vin (by with_reducible assumption) (by with_reducible assumption) (by decide) | exact vinc (by with_reducible assumption) (by with_reducible assumption) (by decide) | exact vinw (by with_reducible assumption) (by with_reducible assumption) (by decide) (by decide) | exact vinl (by with_reducible assumption) (by with_reducible assumption) (by decide) | exact v60a (by with_reducible assumption) (by with_reducible assumption) | exact v60b (by with_reducible assumption) (by with_reducible assumption) | exact v60b' (by with_reducible assumption) (by with_reducible assumption) | exact v60c (by with_reducible assumption) (by with_reducible assumption) | exact v60d (by with_reducible assumption) (by with_reducible assumption)) (fun hv => ?_)
    intro h_14 e_h_14
    have hJ := hJ.hu e_h_14 (by unfold SO; omega)
    refine lpE_intro (fun ⟨x1_q, x2_q, h_q, g_q⟩ => JJ (SO 124) h h_q ∧ x1_1 = x1_q ∧ True) (fun ⟨x1_q, x2_q, h_q, g_q⟩ => dif (h 20 3) x2_q) ?_ _ ⟨hJ, rfl, trivial⟩
    rintro ⟨x1_2, x2_2, h_2, g_2⟩ K2 ⟨hJ, rfl, -⟩ hK2
    unfold F_X5_chooseYears_17; dsimp only; unfold b_X5_chooseYears_17
    refine c_i (p_rowsJ hJ (nS_O (by decide)) gs_20) ?_
    rintro _ _ _ ⟨rfl, rfl, rfl⟩
    refine ⟨fun c => ?_, fun c => ?_⟩
    · skip
      rintro _ rfl
      exact hK1 _ ⟨hJ, (inc_nn (by with_reducible assumption) (by with_reducible assumption)), trivial⟩ (dif_lt (by with_reducible assumption))
    · skip
      refine c_i (p_atJ hC hJ (nS_O (by decide)) gs_20) ?_
      rintro _ _ _ ⟨rfl, rfl, rfl⟩
      refine ⟨fun c => ?_, fun c => ?_⟩
      · skip
        unfold j_X5_chooseYears_59
        rintro _ rfl
        exact hK2 _ ⟨hJ, rfl, trivial⟩ (dif_lt (by with_reducible assumption))
      · skip
        refine and_have (by first | with_reducible assumption | exact vin (by with_reducible assumption) (by with_reducible assumption) (by decide) | exact vinc (by with_reducible assumption) (by with_reducible assumption) (by decide) | exact vinw (by with_reducible assumption) (by with_reducible assumption) (by decide) (by decide) | exact vinl (by with_reducible assumption) (by with_reducible assumption) (by decide) | exact v60a (by with_reducible assumption) (by with_reducible assumption) | exact v60b (by with_reducible assumption) (by with_reducible assumption) | exact v60b' (by with_reducible assumption) (by with_reducible assumption) | exact v60c (by with_reducible assumption) (by with_reducible assumption) | exact v60d (by with_reducible assumption) (by with_reducible assumption)) (fun hv => ?_)
        refine and_have (by first | with_reducible assumption | exact vin (by with_reducible assumption) (by with_reducible assumption) (by decide) | exact vinc (by with_reducible assumption) (by with_reducible assumption) (by decide) | exact vinw (by with_reducible assumption) (by with_reducible assumption) (by decide) (by decide) | exact vinl (by with_reducible assumption) (by with_reducible assumption) (by decide) | exact v60a (by with_reducible assumption) (by with_reducible assumption) | exact v60b (by with_reducible assumption) (by with_reducible assumption) | exact v60b' (by with_reducible assumption) (by with_reducible assumption) | exact v60c (by with_reducible assumption) (by with_reducible assumption) | exact v60d (by with_reducible assumption) (by with_reducible assumption)) (fun hv => ?_)
        intro h_58 e_h_58
        have hJ := hJ.hu e_h_58 (by unfold SO; omega)
        unfold j_X5_chooseYears_59
        rintro _ rfl
        exact hK2 _ ⟨hJ, rfl, trivial⟩ (dif_lt (by with_reducible assumption))
theorem p_X5_runsBy {h : HI} {g : HL} (hC : CI h) {x1 : Int32} {x2 : Int32}   : w_X5_runsBy x1 x2 h g (fun r h' g' => h = h' ∧ g = g') := by
  unfold w_X5_runsBy
  refine c_w (fun c c' => ?_) (fun c => ?_)
  · skip
    refine ⟨fun c => ?_, fun c => ?_⟩
    · skip
      refine lpE_intro (fun ⟨x1_q, x2_q, x3_q, x4_q, h_q, g_q⟩ => x1 = x1_q ∧ x2 = x2_q ∧ h = h_q ∧ g = g_q ∧ True) (fun ⟨x1_q, x2_q, x3_q, x4_q, h_q, g_q⟩ => dif (3 : Int32) x4_q) ?_ _ ⟨rfl, rfl, rfl, rfl, trivial⟩
      rintro ⟨x1_1, x2_1, x3_1, x4_1, h_1, g_1⟩ K1 ⟨rfl, rfl, rfl, rfl, -⟩ hK1
      unfold F_X5_runsBy_18; dsimp only; unfold b_X5_runsBy_18
      refine ⟨fun c => ?_, fun c => ?_⟩
      · skip
        refine and_have (by exact pk_andIn _ 4 (by decide) (by decide)) (fun hv => ?_)
        exact ⟨rfl, rfl⟩
      · skip
        refine ⟨fun c => ?_, fun c => ?_⟩
        · skip
          unfold j_X5_runsBy_48
          rintro _ rfl
          exact hK1 _ ⟨rfl, rfl, rfl, rfl, trivial⟩ (dif_lt (by with_reducible assumption))
        · skip
          refine and_have (by first | with_reducible assumption | exact vin (by with_reducible assumption) (by with_reducible assumption) (by decide) | exact vinc (by with_reducible assumption) (by with_reducible assumption) (by decide) | exact vinw (by with_reducible assumption) (by with_reducible assumption) (by decide) (by decide) | exact vinl (by with_reducible assumption) (by with_reducible assumption) (by decide) | exact v60a (by with_reducible assumption) (by with_reducible assumption) | exact v60b (by with_reducible assumption) (by with_reducible assumption) | exact v60b' (by with_reducible assumption) (by with_reducible assumption) | exact v60c (by with_reducible assumption) (by with_reducible assumption) | exact v60d (by with_reducible assumption) (by with_reducible assumption)) (fun hv => ?_)
          rintro _ rfl
          unfold j_X5_runsBy_48
          rintro _ rfl
          exact hK1 _ ⟨rfl, rfl, rfl, rfl, trivial⟩ (dif_lt (by with_reducible assumption))
    · exact absI c
  · skip
    refine ⟨fun c => ?_, fun c => ?_⟩
    · exact absN c
    · skip
      exact ⟨rfl, rfl⟩
theorem p_X5_idle {h : HI} {g : HL} (hC : CI h) {x1 : Int32} {x2 : Int32}   : w_X5_idle x1 x2 h g (fun r h' g' => h = h' ∧ g = g') := by
  unfold w_X5_idle
  refine c_w (fun c c' => ?_) (fun c => ?_)
  · skip
    refine ⟨fun c => ?_, fun c => ?_⟩
    · exact absI c
    · skip
      refine c_w (fun c c' => ?_) (fun c => ?_)
      · skip
        refine ⟨fun c => ?_, fun c => ?_⟩
        · skip
          refine and_have (by first | with_reducible assumption | exact vin (by with_reducible assumption) (by with_reducible assumption) (by decide) | exact vinc (by with_reducible assumption) (by with_reducible assumption) (by decide) | exact vinw (by with_reducible assumption) (by with_reducible assumption) (by decide) (by decide) | exact vinl (by with_reducible assumption) (by with_reducible assumption) (by decide) | exact v60a (by with_reducible assumption) (by with_reducible assumption) | exact v60b (by with_reducible assumption) (by with_reducible assumption) | exact v60b' (by with_reducible assumption) (by with_reducible assumption) | exact v60c (by with_reducible assumption) (by with_reducible assumption) | exact v60d (by with_reducible assumption) (by with_reducible assumption)) (fun hv => ?_)
          refine c_i (p_X5_runsBy hC ) ?_
          rintro r_31 _ _ ⟨rfl, rfl⟩
          refine and_have (by exact vinw1 (by with_reducible assumption) (by with_reducible assumption) (by decide) (by decide)) (fun hv => ?_)
          refine and_have (by first | with_reducible assumption | exact vin (by with_reducible assumption) (by with_reducible assumption) (by decide) | exact vinc (by with_reducible assumption) (by with_reducible assumption) (by decide) | exact vinw (by with_reducible assumption) (by with_reducible assumption) (by decide) (by decide) | exact vinl (by with_reducible assumption) (by with_reducible assumption) (by decide) | exact v60a (by with_reducible assumption) (by with_reducible assumption) | exact v60b (by with_reducible assumption) (by with_reducible assumption) | exact v60b' (by with_reducible assumption) (by with_reducible assumption) | exact v60c (by with_reducible assumption) (by with_reducible assumption) | exact v60d (by with_reducible assumption) (by with_reducible assumption)) (fun hv => ?_)
          exact ⟨rfl, rfl⟩
        · exact absI c
      · skip
        refine ⟨fun c => ?_, fun c => ?_⟩
        · exact absN c
        · skip
          exact ⟨rfl, rfl⟩
  · skip
    refine ⟨fun c => ?_, fun c => ?_⟩
    · skip
      exact ⟨rfl, rfl⟩
    · exact absN c
theorem p_X5_mostRuns {h : HI} {g : HL} (hC : CI h)    : w_X5_mostRuns h g (fun r h' g' => h = h' ∧ g = g') := by
  unfold w_X5_mostRuns
  refine and_have (by exact vp_in_iff.mpr (by decide)) (fun hv => ?_)
  refine and_have (by exact vp_in_iff.mpr (by decide)) (fun hv => ?_)
  exact ⟨rfl, rfl⟩
theorem p_X6_deniedSayings {h : HI} {g : HL} (hC : CI h)    : w_X6_deniedSayings 1 h g (fun r h' g' => h = h' ∧ g = g') := by
  unfold w_X6_deniedSayings
  refine lpE_intro (fun ⟨x1_q, x2_q, h_q, g_q⟩ => h = h_q ∧ g = g_q ∧ True) (fun ⟨x1_q, x2_q, h_q, g_q⟩ => dif (h (1 + 5) 3) x2_q) ?_ _ ⟨rfl, rfl, trivial⟩
  rintro ⟨x1_1, x2_1, h_1, g_1⟩ K1 ⟨rfl, rfl, -⟩ hK1
  unfold F_X6_deniedSayings_4; dsimp only; unfold b_X6_deniedSayings_4
  refine c_i p_rows ?_
  rintro _ _ _ ⟨rfl, rfl, rfl⟩
  refine ⟨fun c => ?_, fun c => ?_⟩
  · skip
    exact ⟨rfl, rfl⟩
  · skip
    refine c_i (p_at hC (show isT (1 + 5) from gs_6)) ?_
    rintro _ _ _ ⟨rfl, rfl, rfl⟩
    rintro _ rfl
    rintro _ rfl
    exact hK1 _ ⟨rfl, rfl, trivial⟩ (dif_lt (by with_reducible assumption))
theorem p_X6_isIn {h : HI} {g : HL} (hC : CI h) {x1 : Int32} {x2 : Int32}   : w_X6_isIn 1 x1 x2 h g (fun r h' g' => h = h' ∧ g = g') := by
  unfold w_X6_isIn
  refine c_i (p_at hC (show isT (1 + 7) from gs_8)) ?_
  rintro _ _ _ ⟨rfl, rfl, rfl⟩
  refine lpE_intro (fun ⟨x1_q, x2_q, x3_q, x4_q, h_q, g_q⟩ => x1 = x1_q ∧ x2 = x2_q ∧ (tat h (1 + 7) x1 (2 : Int32)) = x3_q ∧ h = h_q ∧ g = g_q ∧ True) (fun ⟨x1_q, x2_q, x3_q, x4_q, h_q, g_q⟩ => dif x3_q x4_q) ?_ _ ⟨rfl, rfl, rfl, rfl, rfl, trivial⟩
  rintro ⟨x1_1, x2_1, x3_1, x4_1, h_1, g_1⟩ K1 ⟨rfl, rfl, rfl, rfl, rfl, -⟩ hK1
  unfold F_X6_isIn_13; dsimp only; unfold b_X6_isIn_13
  refine ⟨fun c => ?_, fun c => ?_⟩
  · skip
    exact ⟨rfl, rfl⟩
  · skip
    refine c_i (p_at hC (show isT (1 + 7) from gs_8)) ?_
    rintro _ _ _ ⟨rfl, rfl, rfl⟩
    refine ⟨fun c => ?_, fun c => ?_⟩
    · skip
      rintro _ rfl
      exact hK1 _ ⟨rfl, rfl, rfl, rfl, rfl, trivial⟩ (dif_lt (by with_reducible assumption))
    · skip
      exact ⟨rfl, rfl⟩
theorem p_X9_reach {h : HI} {g : HL} (hC : CI h) {x1 : Int32} {x2 : Int32} {x3 : Int32}   : w_X9_reach x1 x2 x3 h g (fun h' g' => JJ (SWay) h h') := by
  unfold w_X9_reach
  have hJ : JJ (SWay) h h := JJ.rf
  refine c_w (fun c c' => ?_) (fun c => ?_)
  · skip
    refine ⟨fun c => ?_, fun c => ?_⟩
    · exact absI c
    · skip
      refine c_w (fun c c' => ?_) (fun c => ?_)
      · skip
        refine ⟨fun c => ?_, fun c => ?_⟩
        · skip
          refine and_have (by first | with_reducible assumption | exact vin (by with_reducible assumption) (by with_reducible assumption) (by decide) | exact vinc (by with_reducible assumption) (by with_reducible assumption) (by decide) | exact vinw (by with_reducible assumption) (by with_reducible assumption) (by decide) (by decide) | exact vinl (by with_reducible assumption) (by with_reducible assumption) (by decide) | exact v60a (by with_reducible assumption) (by with_reducible assumption) | exact v60b (by with_reducible assumption) (by with_reducible assumption) | exact v60b' (by with_reducible assumption) (by with_reducible assumption) | exact v60c (by with_reducible assumption) (by with_reducible assumption) | exact v60d (by with_reducible assumption) (by with_reducible assumption)) (fun hv => ?_)
          refine and_have (by first | with_reducible assumption | exact vin (by with_reducible assumption) (by with_reducible assumption) (by decide) | exact vinc (by with_reducible assumption) (by with_reducible assumption) (by decide) | exact vinw (by with_reducible assumption) (by with_reducible assumption) (by decide) (by decide) | exact vinl (by with_reducible assumption) (by with_reducible assumption) (by decide) | exact v60a (by with_reducible assumption) (by with_reducible assumption) | exact v60b (by with_reducible assumption) (by with_reducible assumption) | exact v60b' (by with_reducible assumption) (by with_reducible assumption) | exact v60c (by with_reducible assumption) (by with_reducible assumption) | exact v60d (by with_reducible assumption) (by with_reducible assumption)) (fun hv => ?_)
          refine ⟨fun c => ?_, fun c => ?_⟩
          · skip
            unfold j_X9_reach_85
            refine and_have (by first | with_reducible assumption | exact vin (by with_reducible assumption) (by with_reducible assumption) (by decide) | exact vinc (by with_reducible assumption) (by with_reducible assumption) (by decide) | exact vinw (by with_reducible assumption) (by with_reducible assumption) (by decide) (by decide) | exact vinl (by with_reducible assumption) (by with_reducible assumption) (by decide) | exact v60a (by with_reducible assumption) (by with_reducible assumption) | exact v60b (by with_reducible assumption) (by with_reducible assumption) | exact v60b' (by with_reducible assumption) (by with_reducible assumption) | exact v60c (by with_reducible assumption) (by with_reducible assumption) | exact v60d (by with_reducible assumption) (by with_reducible assumption)) (fun hv => ?_)
            refine and_have (by first | with_reducible assumption | exact vin (by with_reducible assumption) (by with_reducible assumption) (by decide) | exact vinc (by with_reducible assumption) (by with_reducible assumption) (by decide) | exact vinw (by with_reducible assumption) (by with_reducible assumption) (by decide) (by decide) | exact vinl (by with_reducible assumption) (by with_reducible assumption) (by decide) | exact v60a (by with_reducible assumption) (by with_reducible assumption) | exact v60b (by with_reducible assumption) (by with_reducible assumption) | exact v60b' (by with_reducible assumption) (by with_reducible assumption) | exact v60c (by with_reducible assumption) (by with_reducible assumption) | exact v60d (by with_reducible assumption) (by with_reducible assumption)) (fun hv => ?_)
            refine ⟨fun c => ?_, fun c => ?_⟩
            · skip
              exact hJ
            · skip
              refine and_have (by first | with_reducible assumption | exact vin (by with_reducible assumption) (by with_reducible assumption) (by decide) | exact vinc (by with_reducible assumption) (by with_reducible assumption) (by decide) | exact vinw (by with_reducible assumption) (by with_reducible assumption) (by decide) (by decide) | exact vinl (by with_reducible assumption) (by with_reducible assumption) (by decide) | exact v60a (by with_reducible assumption) (by with_reducible assumption) | exact v60b (by with_reducible assumption) (by with_reducible assumption) | exact v60b' (by with_reducible assumption) (by with_reducible assumption) | exact v60c (by with_reducible assumption) (by with_reducible assumption) | exact v60d (by with_reducible assumption) (by with_reducible assumption)) (fun hv => ?_)
              refine and_have (by first | with_reducible assumption | exact vin (by with_reducible assumption) (by with_reducible assumption) (by decide) | exact vinc (by with_reducible assumption) (by with_reducible assumption) (by decide) | exact vinw (by with_reducible assumption) (by with_reducible assumption) (by decide) (by decide) | exact vinl (by with_reducible assumption) (by with_reducible assumption) (by decide) | exact v60a (by with_reducible assumption) (by with_reducible assumption) | exact v60b (by with_reducible assumption) (by with_reducible assumption) | exact v60b' (by with_reducible assumption) (by with_reducible assumption) | exact v60c (by with_reducible assumption) (by with_reducible assumption) | exact v60d (by with_reducible assumption) (by with_reducible assumption)) (fun hv => ?_)
              intro h_105 e_h_105
              have hJ := hJ.hu e_h_105 (by have := vp_lt (‹vp_in x1 2›); unfold SWay; omega)
              exact hJ
          · skip
            refine and_have (by first | with_reducible assumption | exact vin (by with_reducible assumption) (by with_reducible assumption) (by decide) | exact vinc (by with_reducible assumption) (by with_reducible assumption) (by decide) | exact vinw (by with_reducible assumption) (by with_reducible assumption) (by decide) (by decide) | exact vinl (by with_reducible assumption) (by with_reducible assumption) (by decide) | exact v60a (by with_reducible assumption) (by with_reducible assumption) | exact v60b (by with_reducible assumption) (by with_reducible assumption) | exact v60b' (by with_reducible assumption) (by with_reducible assumption) | exact v60c (by with_reducible assumption) (by with_reducible assumption) | exact v60d (by with_reducible assumption) (by with_reducible assumption)) (fun hv => ?_)
            refine c_w (fun c c' => ?_) (fun c => ?_)
            · skip
              refine ⟨fun c => ?_, fun c => ?_⟩
              · exact absI c
              · skip
                refine and_have (by first | with_reducible assumption | exact vin (by with_reducible assumption) (by with_reducible assumption) (by decide) | exact vinc (by with_reducible assumption) (by with_reducible assumption) (by decide) | exact vinw (by with_reducible assumption) (by with_reducible assumption) (by decide) (by decide) | exact vinl (by with_reducible assumption) (by with_reducible assumption) (by decide) | exact v60a (by with_reducible assumption) (by with_reducible assumption) | exact v60b (by with_reducible assumption) (by with_reducible assumption) | exact v60b' (by with_reducible assumption) (by with_reducible assumption) | exact v60c (by with_reducible assumption) (by with_reducible assumption) | exact v60d (by with_reducible assumption) (by with_reducible assumption)) (fun hv => ?_)
                refine and_have (by first | with_reducible assumption | exact vin (by with_reducible assumption) (by with_reducible assumption) (by decide) | exact vinc (by with_reducible assumption) (by with_reducible assumption) (by decide) | exact vinw (by with_reducible assumption) (by with_reducible assumption) (by decide) (by decide) | exact vinl (by with_reducible assumption) (by with_reducible assumption) (by decide) | exact v60a (by with_reducible assumption) (by with_reducible assumption) | exact v60b (by with_reducible assumption) (by with_reducible assumption) | exact v60b' (by with_reducible assumption) (by with_reducible assumption) | exact v60c (by with_reducible assumption) (by with_reducible assumption) | exact v60d (by with_reducible assumption) (by with_reducible assumption)) (fun hv => ?_)
                refine and_have (by first | with_reducible assumption | exact vin (by with_reducible assumption) (by with_reducible assumption) (by decide) | exact vinc (by with_reducible assumption) (by with_reducible assumption) (by decide) | exact vinw (by with_reducible assumption) (by with_reducible assumption) (by decide) (by decide) | exact vinl (by with_reducible assumption) (by with_reducible assumption) (by decide) | exact v60a (by with_reducible assumption) (by with_reducible assumption) | exact v60b (by with_reducible assumption) (by with_reducible assumption) | exact v60b' (by with_reducible assumption) (by with_reducible assumption) | exact v60c (by with_reducible assumption) (by with_reducible assumption) | exact v60d (by with_reducible assumption) (by with_reducible assumption)) (fun hv => ?_)
                intro h_62 e_h_62
                have hJ := hJ.hu e_h_62 (by have := vp_lt (‹vp_in x1 2›); unfold SWay; omega)
                refine and_have (by first | with_reducible assumption | exact vin (by with_reducible assumption) (by with_reducible assumption) (by decide) | exact vinc (by with_reducible assumption) (by with_reducible assumption) (by decide) | exact vinw (by with_reducible assumption) (by with_reducible assumption) (by decide) (by decide) | exact vinl (by with_reducible assumption) (by with_reducible assumption) (by decide) | exact v60a (by with_reducible assumption) (by with_reducible assumption) | exact v60b (by with_reducible assumption) (by with_reducible assumption) | exact v60b' (by with_reducible assumption) (by with_reducible assumption) | exact v60c (by with_reducible assumption) (by with_reducible assumption) | exact v60d (by with_reducible assumption) (by with_reducible assumption)) (fun hv => ?_)
                refine and_have (by first | with_reducible assumption | exact vin (by with_reducible assumption) (by with_reducible assumption) (by decide) | exact vinc (by with_reducible assumption) (by with_reducible assumption) (by decide) | exact vinw (by with_reducible assumption) (by with_reducible assumption) (by decide) (by decide) | exact vinl (by with_reducible assumption) (by with_reducible assumption) (by decide) | exact v60a (by with_reducible assumption) (by with_reducible assumption) | exact v60b (by with_reducible assumption) (by with_reducible assumption) | exact v60b' (by with_reducible assumption) (by with_reducible assumption) | exact v60c (by with_reducible assumption) (by with_reducible assumption) | exact v60d (by with_reducible assumption) (by with_reducible assumption)) (fun hv => ?_)
                intro h_72 e_h_72
                have hJ := hJ.hu e_h_72 (by unfold SWay; omega)
                refine and_have (by first | with_reducible assumption | exact vin (by with_reducible assumption) (by with_reducible assumption) (by decide) | exact vinc (by with_reducible assumption) (by with_reducible assumption) (by decide) | exact vinw (by with_reducible assumption) (by with_reducible assumption) (by decide) (by decide) | exact vinl (by with_reducible assumption) (by with_reducible assumption) (by decide) | exact v60a (by with_reducible assumption) (by with_reducible assumption) | exact v60b (by with_reducible assumption) (by with_reducible assumption) | exact v60b' (by with_reducible assumption) (by with_reducible assumption) | exact v60c (by with_reducible assumption) (by with_reducible assumption) | exact v60d (by with_reducible assumption) (by with_reducible assumption)) (fun hv => ?_)
                refine and_have (by first | with_reducible assumption | exact vin (by with_reducible assumption) (by with_reducible assumption) (by decide) | exact vinc (by with_reducible assumption) (by with_reducible assumption) (by decide) | exact vinw (by with_reducible assumption) (by with_reducible assumption) (by decide) (by decide) | exact vinl (by with_reducible assumption) (by with_reducible assumption) (by decide) | exact v60a (by with_reducible assumption) (by with_reducible assumption) | exact v60b (by with_reducible assumption) (by with_reducible assumption) | exact v60b' (by with_reducible assumption) (by with_reducible assumption) | exact v60c (by with_reducible assumption) (by with_reducible assumption) | exact v60d (by with_reducible assumption) (by with_reducible assumption)) (fun hv => ?_)
                intro h_81 e_h_81
                have hJ := hJ.hu e_h_81 (by have := vp_lt (‹vp_in x1 2›); unfold SWay; omega)
                exact hJ
            · skip
              refine ⟨fun c => ?_, fun c => ?_⟩
              · skip
                unfold j_X9_reach_85
                refine and_have (by first | with_reducible assumption | exact vin (by with_reducible assumption) (by with_reducible assumption) (by decide) | exact vinc (by with_reducible assumption) (by with_reducible assumption) (by decide) | exact vinw (by with_reducible assumption) (by with_reducible assumption) (by decide) (by decide) | exact vinl (by with_reducible assumption) (by with_reducible assumption) (by decide) | exact v60a (by with_reducible assumption) (by with_reducible assumption) | exact v60b (by with_reducible assumption) (by with_reducible assumption) | exact v60b' (by with_reducible assumption) (by with_reducible assumption) | exact v60c (by with_reducible assumption) (by with_reducible assumption) | exact v60d (by with_reducible assumption) (by with_reducible assumption)) (fun hv => ?_)
                refine and_have (by first | with_reducible assumption | exact vin (by with_reducible assumption) (by with_reducible assumption) (by decide) | exact vinc (by with_reducible assumption) (by with_reducible assumption) (by decide) | exact vinw (by with_reducible assumption) (by with_reducible assumption) (by decide) (by decide) | exact vinl (by with_reducible assumption) (by with_reducible assumption) (by decide) | exact v60a (by with_reducible assumption) (by with_reducible assumption) | exact v60b (by with_reducible assumption) (by with_reducible assumption) | exact v60b' (by with_reducible assumption) (by with_reducible assumption) | exact v60c (by with_reducible assumption) (by with_reducible assumption) | exact v60d (by with_reducible assumption) (by with_reducible assumption)) (fun hv => ?_)
                refine ⟨fun c => ?_, fun c => ?_⟩
                · skip
                  exact hJ
                · skip
                  refine and_have (by first | with_reducible assumption | exact vin (by with_reducible assumption) (by with_reducible assumption) (by decide) | exact vinc (by with_reducible assumption) (by with_reducible assumption) (by decide) | exact vinw (by with_reducible assumption) (by with_reducible assumption) (by decide) (by decide) | exact vinl (by with_reducible assumption) (by with_reducible assumption) (by decide) | exact v60a (by with_reducible assumption) (by with_reducible assumption) | exact v60b (by with_reducible assumption) (by with_reducible assumption) | exact v60b' (by with_reducible assumption) (by with_reducible assumption) | exact v60c (by with_reducible assumption) (by with_reducible assumption) | exact v60d (by with_reducible assumption) (by with_reducible assumption)) (fun hv => ?_)
                  refine and_have (by first | with_reducible assumption | exact vin (by with_reducible assumption) (by with_reducible assumption) (by decide) | exact vinc (by with_reducible assumption) (by with_reducible assumption) (by decide) | exact vinw (by with_reducible assumption) (by with_reducible assumption) (by decide) (by decide) | exact vinl (by with_reducible assumption) (by with_reducible assumption) (by decide) | exact v60a (by with_reducible assumption) (by with_reducible assumption) | exact v60b (by with_reducible assumption) (by with_reducible assumption) | exact v60b' (by with_reducible assumption) (by with_reducible assumption) | exact v60c (by with_reducible assumption) (by with_reducible assumption) | exact v60d (by with_reducible assumption) (by with_reducible assumption)) (fun hv => ?_)
                  intro h_105 e_h_105
                  have hJ := hJ.hu e_h_105 (by have := vp_lt (‹vp_in x1 2›); unfold SWay; omega)
                  exact hJ
              · exact absN c
        · exact absI c
      · skip
        refine ⟨fun c => ?_, fun c => ?_⟩
        · exact absN c
        · skip
          exact hJ
  · skip
    refine ⟨fun c => ?_, fun c => ?_⟩
    · skip
      exact hJ
    · exact absN c
theorem p_X9_look {h : HI} {g : HL} (hC : CI h) {x1 : Int32} {x2 : Int32} {x3 : Int32} {x4 : Int32}   : w_X9_look x1 x2 x3 x4 h g (fun h' g' => JJ (SWay) h h') := by
  unfold w_X9_look
  have hJ : JJ (SWay) h h := JJ.rf
  refine c_w (fun c c' => ?_) (fun c => ?_)
  · skip
    refine ⟨fun c => ?_, fun c => ?_⟩
    · skip
      refine lpE_intro (fun ⟨x1_q, x2_q, x3_q, x4_q, x5_q, x6_q, h_q, g_q⟩ => JJ (SWay) h h_q ∧ x1 = x1_q ∧ x2 = x2_q ∧ x3 = x3_q ∧ x4 = x4_q ∧ ¬ x6_q < 0 ∧ True) (fun ⟨x1_q, x2_q, x3_q, x4_q, x5_q, x6_q, h_q, g_q⟩ => dif (3000 : Int32) x6_q) ?_ _ ⟨hJ, rfl, rfl, rfl, rfl, nn0, trivial⟩
      rintro ⟨x1_1, x2_1, x3_1, x4_1, x5_1, x6_1, h_1, g_1⟩ K1 ⟨hJ, rfl, rfl, rfl, rfl, i1_0, -⟩ hK1
      unfold F_X9_look_16; dsimp only; unfold b_X9_look_16
      refine and_have (by first | with_reducible assumption | exact vin (by with_reducible assumption) (by with_reducible assumption) (by decide) | exact vinc (by with_reducible assumption) (by with_reducible assumption) (by decide) | exact vinw (by with_reducible assumption) (by with_reducible assumption) (by decide) (by decide) | exact vinl (by with_reducible assumption) (by with_reducible assumption) (by decide) | exact v60a (by with_reducible assumption) (by with_reducible assumption) | exact v60b (by with_reducible assumption) (by with_reducible assumption) | exact v60b' (by with_reducible assumption) (by with_reducible assumption) | exact v60c (by with_reducible assumption) (by with_reducible assumption) | exact v60d (by with_reducible assumption) (by with_reducible assumption)) (fun hv => ?_)
      refine ⟨fun c => ?_, fun c => ?_⟩
      · skip
        unfold j_X9_look_104
        refine ⟨fun c => ?_, fun c => ?_⟩
        · skip
          exact hJ
        · skip
          refine ⟨fun c => ?_, fun c => ?_⟩
          · skip
            unfold j_X9_look_131
            intro h_137 e_h_137
            have hJ := hJ.hu e_h_137 (by unfold SWay; omega)
            intro h_146 e_h_146
            have hJ := hJ.hu e_h_146 (by unfold SWay; omega)
            intro h_151 e_h_151
            have hJ := hJ.hu e_h_151 (by unfold SWay; omega)
            exact hJ
          · skip
            refine ⟨fun c => ?_, fun c => ?_⟩
            · skip
              unfold j_X9_look_131
              intro h_137 e_h_137
              have hJ := hJ.hu e_h_137 (by unfold SWay; omega)
              intro h_146 e_h_146
              have hJ := hJ.hu e_h_146 (by unfold SWay; omega)
              intro h_151 e_h_151
              have hJ := hJ.hu e_h_151 (by unfold SWay; omega)
              exact hJ
            · skip
              exact hJ
      · skip
        refine ⟨fun c => ?_, fun c => ?_⟩
        · skip
          unfold j_X9_look_104
          refine ⟨fun c => ?_, fun c => ?_⟩
          · skip
            exact hJ
          · skip
            refine ⟨fun c => ?_, fun c => ?_⟩
            · skip
              unfold j_X9_look_131
              intro h_137 e_h_137
              have hJ := hJ.hu e_h_137 (by unfold SWay; omega)
              intro h_146 e_h_146
              have hJ := hJ.hu e_h_146 (by unfold SWay; omega)
              intro h_151 e_h_151
              have hJ := hJ.hu e_h_151 (by unfold SWay; omega)
              exact hJ
            · skip
              refine ⟨fun c => ?_, fun c => ?_⟩
              · skip
                unfold j_X9_look_131
                intro h_137 e_h_137
                have hJ := hJ.hu e_h_137 (by unfold SWay; omega)
                intro h_146 e_h_146
                have hJ := hJ.hu e_h_146 (by unfold SWay; omega)
                intro h_151 e_h_151
                have hJ := hJ.hu e_h_151 (by unfold SWay; omega)
                exact hJ
              · skip
                exact hJ
        · skip
          refine and_have (by first | with_reducible assumption | exact vin (by with_reducible assumption) (by with_reducible assumption) (by decide) | exact vinc (by with_reducible assumption) (by with_reducible assumption) (by decide) | exact vinw (by with_reducible assumption) (by with_reducible assumption) (by decide) (by decide) | exact vinl (by with_reducible assumption) (by with_reducible assumption) (by decide) | exact v60a (by with_reducible assumption) (by with_reducible assumption) | exact v60b (by with_reducible assumption) (by with_reducible assumption) | exact v60b' (by with_reducible assumption) (by with_reducible assumption) | exact v60c (by with_reducible assumption) (by with_reducible assumption) | exact v60d (by with_reducible assumption) (by with_reducible assumption)) (fun hv => ?_)
          refine and_have (by first | with_reducible assumption | exact vin (by with_reducible assumption) (by with_reducible assumption) (by decide) | exact vinc (by with_reducible assumption) (by with_reducible assumption) (by decide) | exact vinw (by with_reducible assumption) (by with_reducible assumption) (by decide) (by decide) | exact vinl (by with_reducible assumption) (by with_reducible assumption) (by decide) | exact v60a (by with_reducible assumption) (by with_reducible assumption) | exact v60b (by with_reducible assumption) (by with_reducible assumption) | exact v60b' (by with_reducible assumption) (by with_reducible assumption) | exact v60c (by with_reducible assumption) (by with_reducible assumption) | exact v60d (by with_reducible assumption) (by with_reducible assumption)) (fun hv => ?_)
          rintro _ rfl
          refine c_w (fun c c' => ?_) (fun c => ?_)
          · skip
            refine ⟨fun c => ?_, fun c => ?_⟩
            · skip
              refine and_have (by first | with_reducible assumption | exact vin (by with_reducible assumption) (by with_reducible assumption) (by decide) | exact vinc (by with_reducible assumption) (by with_reducible assumption) (by decide) | exact vinw (by with_reducible assumption) (by with_reducible assumption) (by decide) (by decide) | exact vinl (by with_reducible assumption) (by with_reducible assumption) (by decide) | exact v60a (by with_reducible assumption) (by with_reducible assumption) | exact v60b (by with_reducible assumption) (by with_reducible assumption) | exact v60b' (by with_reducible assumption) (by with_reducible assumption) | exact v60c (by with_reducible assumption) (by with_reducible assumption) | exact v60d (by with_reducible assumption) (by with_reducible assumption)) (fun hv => ?_)
              refine and_have (by exact vmx (by with_reducible assumption) (by with_reducible assumption)) (fun hv => ?_)
              rintro _ rfl
              refine ⟨fun c => ?_, fun c => ?_⟩
              · skip
                unfold j_X9_look_94
                unfold j_X9_look_98
                rintro _ rfl
                exact hK1 _ ⟨hJ, rfl, rfl, rfl, rfl, (inc_nn (by with_reducible assumption) (by with_reducible assumption)), trivial⟩ (dif_lt (by with_reducible assumption))
              · skip
                refine ⟨fun c => ?_, fun c => ?_⟩
                · skip
                  unfold j_X9_look_98
                  rintro _ rfl
                  exact hK1 _ ⟨hJ, rfl, rfl, rfl, rfl, (inc_nn (by with_reducible assumption) (by with_reducible assumption)), trivial⟩ (dif_lt (by with_reducible assumption))
                · skip
                  unfold j_X9_look_94
                  unfold j_X9_look_98
                  rintro _ rfl
                  exact hK1 _ ⟨hJ, rfl, rfl, rfl, rfl, (inc_nn (by with_reducible assumption) (by with_reducible assumption)), trivial⟩ (dif_lt (by with_reducible assumption))
            · exact absI c
          · skip
            refine ⟨fun c => ?_, fun c => ?_⟩
            · exact absN c
            · skip
              unfold j_X9_look_98
              rintro _ rfl
              exact hK1 _ ⟨hJ, rfl, rfl, rfl, rfl, (inc_nn (by with_reducible assumption) (by with_reducible assumption)), trivial⟩ (dif_lt (by with_reducible assumption))
    · exact absI c
  · skip
    refine ⟨fun c => ?_, fun c => ?_⟩
    · exact absN c
    · skip
      exact hJ
theorem p_X9_spread {h : HI} {g : HL} (hC : CI h) {x1 : Int32}   : w_X9_spread x1 h g (fun h' g' => JJ (SWay) h h') := by
  unfold w_X9_spread
  have hJ : JJ (SWay) h h := JJ.rf
  refine c_w (fun c c' => ?_) (fun c => ?_)
  · skip
    refine ⟨fun c => ?_, fun c => ?_⟩
    · skip
      refine lpE_intro (fun ⟨x1_q, x2_q, h_q, g_q⟩ => JJ (SWay) h h_q ∧ x1 = x1_q ∧ ¬ x2_q < 0 ∧ True) (fun ⟨x1_q, x2_q, h_q, g_q⟩ => dif (3000 : Int32) x2_q) ?_ _ ⟨hJ, rfl, nn0, trivial⟩
      rintro ⟨x1_1, x2_1, h_1, g_1⟩ K1 ⟨hJ, rfl, i1_0, -⟩ hK1
      unfold F_X9_spread_12; dsimp only; unfold b_X9_spread_12
      refine and_have (by first | with_reducible assumption | exact vin (by with_reducible assumption) (by with_reducible assumption) (by decide) | exact vinc (by with_reducible assumption) (by with_reducible assumption) (by decide) | exact vinw (by with_reducible assumption) (by with_reducible assumption) (by decide) (by decide) | exact vinl (by with_reducible assumption) (by with_reducible assumption) (by decide) | exact v60a (by with_reducible assumption) (by with_reducible assumption) | exact v60b (by with_reducible assumption) (by with_reducible assumption) | exact v60b' (by with_reducible assumption) (by with_reducible assumption) | exact v60c (by with_reducible assumption) (by with_reducible assumption) | exact v60d (by with_reducible assumption) (by with_reducible assumption)) (fun hv => ?_)
      refine ⟨fun c => ?_, fun c => ?_⟩
      · skip
        exact hJ
      · skip
        refine ⟨fun c => ?_, fun c => ?_⟩
        · skip
          exact hJ
        · skip
          refine and_have (by first | with_reducible assumption | exact vin (by with_reducible assumption) (by with_reducible assumption) (by decide) | exact vinc (by with_reducible assumption) (by with_reducible assumption) (by decide) | exact vinw (by with_reducible assumption) (by with_reducible assumption) (by decide) (by decide) | exact vinl (by with_reducible assumption) (by with_reducible assumption) (by decide) | exact v60a (by with_reducible assumption) (by with_reducible assumption) | exact v60b (by with_reducible assumption) (by with_reducible assumption) | exact v60b' (by with_reducible assumption) (by with_reducible assumption) | exact v60c (by with_reducible assumption) (by with_reducible assumption) | exact v60d (by with_reducible assumption) (by with_reducible assumption)) (fun hv => ?_)
          refine and_have (by first | with_reducible assumption | exact vin (by with_reducible assumption) (by with_reducible assumption) (by decide) | exact vinc (by with_reducible assumption) (by with_reducible assumption) (by decide) | exact vinw (by with_reducible assumption) (by with_reducible assumption) (by decide) (by decide) | exact vinl (by with_reducible assumption) (by with_reducible assumption) (by decide) | exact v60a (by with_reducible assumption) (by with_reducible assumption) | exact v60b (by with_reducible assumption) (by with_reducible assumption) | exact v60b' (by with_reducible assumption) (by with_reducible assumption) | exact v60c (by with_reducible assumption) (by with_reducible assumption) | exact v60d (by with_reducible assumption) (by with_reducible assumption)) (fun hv => ?_)
          rintro _ rfl
          refine c_w (fun c c' => ?_) (fun c => ?_)
          · skip
            refine ⟨fun c => ?_, fun c => ?_⟩
            · skip
              refine and_have (by first | with_reducible assumption | exact vin (by with_reducible assumption) (by with_reducible assumption) (by decide) | exact vinc (by with_reducible assumption) (by with_reducible assumption) (by decide) | exact vinw (by with_reducible assumption) (by with_reducible assumption) (by decide) (by decide) | exact vinl (by with_reducible assumption) (by with_reducible assumption) (by decide) | exact v60a (by with_reducible assumption) (by with_reducible assumption) | exact v60b (by with_reducible assumption) (by with_reducible assumption) | exact v60b' (by with_reducible assumption) (by with_reducible assumption) | exact v60c (by with_reducible assumption) (by with_reducible assumption) | exact v60d (by with_reducible assumption) (by with_reducible assumption)) (fun hv => ?_)
              refine and_have (by first | with_reducible assumption | exact vin (by with_reducible assumption) (by with_reducible assumption) (by decide) | exact vinc (by with_reducible assumption) (by with_reducible assumption) (by decide) | exact vinw (by with_reducible assumption) (by with_reducible assumption) (by decide) (by decide) | exact vinl (by with_reducible assumption) (by with_reducible assumption) (by decide) | exact v60a (by with_reducible assumption) (by with_reducible assumption) | exact v60b (by with_reducible assumption) (by with_reducible assumption) | exact v60b' (by with_reducible assumption) (by with_reducible assumption) | exact v60c (by with_reducible assumption) (by with_reducible assumption) | exact v60d (by with_reducible assumption) (by with_reducible assumption)) (fun hv => ?_)
              rintro _ rfl
              rintro _ rfl
              rintro _ rfl
              refine lpE_intro (fun ⟨x1_q, x2_q, x3_q, x5_q, x6_q, x7_q, h_q, g_q⟩ => JJ (SWay) h h_q ∧ x1 = x1_q ∧ x2_1 = x2_q ∧ ((h_1 (94 + x1.toNatClampNeg) x2_1.toNatClampNeg)) = x3_q ∧ ((((h_1 (91 + x1.toNatClampNeg) ((h_1 (94 + x1.toNatClampNeg) x2_1.toNatClampNeg)).toNatClampNeg)) / (32768 : Int32))) = x5_q ∧ ((((h_1 (91 + x1.toNatClampNeg) ((h_1 (94 + x1.toNatClampNeg) x2_1.toNatClampNeg)).toNatClampNeg)) - ((h_1 (91 + x1.toNatClampNeg) ((h_1 (94 + x1.toNatClampNeg) x2_1.toNatClampNeg)).toNatClampNeg)) / (32768 : Int32) * (32768 : Int32))) = x6_q ∧ True) (fun ⟨x1_q, x2_q, x3_q, x5_q, x6_q, x7_q, h_q, g_q⟩ => dif (h 10 3) x7_q) ?_ _ ⟨hJ, rfl, rfl, rfl, rfl, rfl, trivial⟩
              rintro ⟨x1_2, x2_2, x3_2, x5_2, x6_2, x7_2, h_2, g_2⟩ K2 ⟨hJ, rfl, rfl, rfl, rfl, rfl, -⟩ hK2
              unfold F_X9_spread_79; dsimp only; unfold b_X9_spread_79
              refine c_i (p_rowsJ hJ nSWay gs_10) ?_
              rintro _ _ _ ⟨rfl, rfl, rfl⟩
              refine ⟨fun c => ?_, fun c => ?_⟩
              · skip
                unfold j_X9_spread_194
                rintro _ rfl
                exact hK1 _ ⟨hJ, rfl, (inc_nn (by with_reducible assumption) (by with_reducible assumption)), trivial⟩ (dif_lt (by with_reducible assumption))
              · skip
                refine c_i (p_atJ hC hJ nSWay gs_10) ?_
                rintro _ _ _ ⟨rfl, rfl, rfl⟩
                refine ⟨fun c => ?_, fun c => ?_⟩
                · skip
                  refine c_i (p_atJ hC hJ nSWay gs_10) ?_
                  rintro _ _ _ ⟨rfl, rfl, rfl⟩
                  refine ⟨fun c => ?_, fun c => ?_⟩
                  · skip
                    refine c_i (p_atJ hC hJ nSWay gs_10) ?_
                    rintro _ _ _ ⟨rfl, rfl, rfl⟩
                    rintro _ rfl
                    refine c_i (p_atJ hC hJ nSWay gs_10) ?_
                    rintro _ _ _ ⟨rfl, rfl, rfl⟩
                    refine c_v (p_X9_reach (hC.jj hJ nSWay) ) ?_
                    rintro h_185 g_185 hJ2
                    have hJ := hJ.tr (hJ2)
                    unfold j_X9_spread_188
                    rintro _ rfl
                    exact hK2 _ ⟨hJ, rfl, rfl, rfl, rfl, rfl, trivial⟩ (dif_lt (by with_reducible assumption))
                  · skip
                    unfold j_X9_spread_188
                    rintro _ rfl
                    exact hK2 _ ⟨hJ, rfl, rfl, rfl, rfl, rfl, trivial⟩ (dif_lt (by with_reducible assumption))
                · skip
                  unfold j_X9_spread_188
                  rintro _ rfl
                  exact hK2 _ ⟨hJ, rfl, rfl, rfl, rfl, rfl, trivial⟩ (dif_lt (by with_reducible assumption))
            · exact absI c
          · skip
            refine ⟨fun c => ?_, fun c => ?_⟩
            · exact absN c
            · skip
              unfold j_X9_spread_194
              rintro _ rfl
              exact hK1 _ ⟨hJ, rfl, (inc_nn (by with_reducible assumption) (by with_reducible assumption)), trivial⟩ (dif_lt (by with_reducible assumption))
    · exact absI c
  · skip
    refine ⟨fun c => ?_, fun c => ?_⟩
    · exact absN c
    · skip
      exact hJ
theorem p_X9_forget {h : HI} {g : HL} (hC : CI h) {x1 : Int32}   : w_X9_forget x1 h g (fun h' g' => JJ (SWay) h h') := by
  unfold w_X9_forget
  have hJ : JJ (SWay) h h := JJ.rf
  refine c_w (fun c c' => ?_) (fun c => ?_)
  · skip
    refine ⟨fun c => ?_, fun c => ?_⟩
    · skip
      refine lpE_intro (fun ⟨x1_q, x2_q, h_q, g_q⟩ => JJ (SWay) h h_q ∧ x1 = x1_q ∧ ¬ x2_q < 0 ∧ True) (fun ⟨x1_q, x2_q, h_q, g_q⟩ => dif (3000 : Int32) x2_q) ?_ _ ⟨hJ, rfl, nn0, trivial⟩
      rintro ⟨x1_1, x2_1, h_1, g_1⟩ K1 ⟨hJ, rfl, i1_0, -⟩ hK1
      unfold F_X9_forget_12; dsimp only; unfold b_X9_forget_12
      refine and_have (by first | with_reducible assumption | exact vin (by with_reducible assumption) (by with_reducible assumption) (by decide) | exact vinc (by with_reducible assumption) (by with_reducible assumption) (by decide) | exact vinw (by with_reducible assumption) (by with_reducible assumption) (by decide) (by decide) | exact vinl (by with_reducible assumption) (by with_reducible assumption) (by decide) | exact v60a (by with_reducible assumption) (by with_reducible assumption) | exact v60b (by with_reducible assumption) (by with_reducible assumption) | exact v60b' (by with_reducible assumption) (by with_reducible assumption) | exact v60c (by with_reducible assumption) (by with_reducible assumption) | exact v60d (by with_reducible assumption) (by with_reducible assumption)) (fun hv => ?_)
      refine ⟨fun c => ?_, fun c => ?_⟩
      · skip
        unfold j_X9_forget_64
        refine and_have (by first | with_reducible assumption | exact vin (by with_reducible assumption) (by with_reducible assumption) (by decide) | exact vinc (by with_reducible assumption) (by with_reducible assumption) (by decide) | exact vinw (by with_reducible assumption) (by with_reducible assumption) (by decide) (by decide) | exact vinl (by with_reducible assumption) (by with_reducible assumption) (by decide) | exact v60a (by with_reducible assumption) (by with_reducible assumption) | exact v60b (by with_reducible assumption) (by with_reducible assumption) | exact v60b' (by with_reducible assumption) (by with_reducible assumption) | exact v60c (by with_reducible assumption) (by with_reducible assumption) | exact v60d (by with_reducible assumption) (by with_reducible assumption)) (fun hv => ?_)
        intro h_70 e_h_70
        have hJ := hJ.hu e_h_70 (by unfold SWay; omega)
        exact hJ
      · skip
        refine ⟨fun c => ?_, fun c => ?_⟩
        · skip
          unfold j_X9_forget_64
          refine and_have (by first | with_reducible assumption | exact vin (by with_reducible assumption) (by with_reducible assumption) (by decide) | exact vinc (by with_reducible assumption) (by with_reducible assumption) (by decide) | exact vinw (by with_reducible assumption) (by with_reducible assumption) (by decide) (by decide) | exact vinl (by with_reducible assumption) (by with_reducible assumption) (by decide) | exact v60a (by with_reducible assumption) (by with_reducible assumption) | exact v60b (by with_reducible assumption) (by with_reducible assumption) | exact v60b' (by with_reducible assumption) (by with_reducible assumption) | exact v60c (by with_reducible assumption) (by with_reducible assumption) | exact v60d (by with_reducible assumption) (by with_reducible assumption)) (fun hv => ?_)
          intro h_70 e_h_70
          have hJ := hJ.hu e_h_70 (by unfold SWay; omega)
          exact hJ
        · skip
          refine and_have (by first | with_reducible assumption | exact vin (by with_reducible assumption) (by with_reducible assumption) (by decide) | exact vinc (by with_reducible assumption) (by with_reducible assumption) (by decide) | exact vinw (by with_reducible assumption) (by with_reducible assumption) (by decide) (by decide) | exact vinl (by with_reducible assumption) (by with_reducible assumption) (by decide) | exact v60a (by with_reducible assumption) (by with_reducible assumption) | exact v60b (by with_reducible assumption) (by with_reducible assumption) | exact v60b' (by with_reducible assumption) (by with_reducible assumption) | exact v60c (by with_reducible assumption) (by with_reducible assumption) | exact v60d (by with_reducible assumption) (by with_reducible assumption)) (fun hv => ?_)
          refine and_have (by first | with_reducible assumption | exact vin (by with_reducible assumption) (by with_reducible assumption) (by decide) | exact vinc (by with_reducible assumption) (by with_reducible assumption) (by decide) | exact vinw (by with_reducible assumption) (by with_reducible assumption) (by decide) (by decide) | exact vinl (by with_reducible assumption) (by with_reducible assumption) (by decide) | exact v60a (by with_reducible assumption) (by with_reducible assumption) | exact v60b (by with_reducible assumption) (by with_reducible assumption) | exact v60b' (by with_reducible assumption) (by with_reducible assumption) | exact v60c (by with_reducible assumption) (by with_reducible assumption) | exact v60d (by with_reducible assumption) (by with_reducible assumption)) (fun hv => ?_)
          rintro _ rfl
          refine c_w (fun c c' => ?_) (fun c => ?_)
          · skip
            refine ⟨fun c => ?_, fun c => ?_⟩
            · exact absI c
            · skip
              refine and_have (by first | with_reducible assumption | exact vin (by with_reducible assumption) (by with_reducible assumption) (by decide) | exact vinc (by with_reducible assumption) (by with_reducible assumption) (by decide) | exact vinw (by with_reducible assumption) (by with_reducible assumption) (by decide) (by decide) | exact vinl (by with_reducible assumption) (by with_reducible assumption) (by decide) | exact v60a (by with_reducible assumption) (by with_reducible assumption) | exact v60b (by with_reducible assumption) (by with_reducible assumption) | exact v60b' (by with_reducible assumption) (by with_reducible assumption) | exact v60c (by with_reducible assumption) (by with_reducible assumption) | exact v60d (by with_reducible assumption) (by with_reducible assumption)) (fun hv => ?_)
              refine and_have (by first | with_reducible assumption | exact vin (by with_reducible assumption) (by with_reducible assumption) (by decide) | exact vinc (by with_reducible assumption) (by with_reducible assumption) (by decide) | exact vinw (by with_reducible assumption) (by with_reducible assumption) (by decide) (by decide) | exact vinl (by with_reducible assumption) (by with_reducible assumption) (by decide) | exact v60a (by with_reducible assumption) (by with_reducible assumption) | exact v60b (by with_reducible assumption) (by with_reducible assumption) | exact v60b' (by with_reducible assumption) (by with_reducible assumption) | exact v60c (by with_reducible assumption) (by with_reducible assumption) | exact v60d (by with_reducible assumption) (by with_reducible assumption)) (fun hv => ?_)
              intro h_57 e_h_57
              have hJ := hJ.hu e_h_57 (by have := vp_lt (‹vp_in x1 2›); unfold SWay; omega)
              unfold j_X9_forget_58
              rintro _ rfl
              exact hK1 _ ⟨hJ, rfl, (inc_nn (by with_reducible assumption) (by with_reducible assumption)), trivial⟩ (dif_lt (by with_reducible assumption))
          · skip
            refine ⟨fun c => ?_, fun c => ?_⟩
            · skip
              unfold j_X9_forget_58
              rintro _ rfl
              exact hK1 _ ⟨hJ, rfl, (inc_nn (by with_reducible assumption) (by with_reducible assumption)), trivial⟩ (dif_lt (by with_reducible assumption))
            · exact absN c
    · exact absI c
  · skip
    refine ⟨fun c => ?_, fun c => ?_⟩
    · exact absN c
    · skip
      exact hJ
theorem p_X9_find {h : HI} {g : HL} (hC : CI h) {x1 : Int32} {x2 : Int32} {x3 : Int32}   : w_X9_find x1 x2 x3 h g (fun h' g' => JJ (SWay) h h') := by
  unfold w_X9_find
  have hJ : JJ (SWay) h h := JJ.rf
  intro h_2 e_h_2
  have hJ := hJ.hu e_h_2 (by unfold SWay; omega)
  refine c_v (p_X9_reach (hC.jj hJ nSWay) ) ?_
  rintro h_9 g_9 hJ2
  have hJ := hJ.tr (hJ2)
  refine lpE_intro (fun ⟨x2_q, x3_q, x4_q, h_q, g_q⟩ => JJ (SWay) h h_q ∧ x2 = x2_q ∧ x3 = x3_q ∧ True) (fun ⟨x2_q, x3_q, x4_q, h_q, g_q⟩ => dil (5 : Int32) x4_q) ?_ _ ⟨hJ, rfl, rfl, trivial⟩
  rintro ⟨x2_1, x3_1, x4_1, h_1, g_1⟩ K1 ⟨hJ, rfl, rfl, -⟩ hK1
  unfold F_X9_find_15; dsimp only; unfold b_X9_find_15
  refine ⟨fun c => ?_, fun c => ?_⟩
  · skip
    exact hJ
  · skip
    rintro _ rfl
    refine c_v (p_X9_look (hC.jj hJ nSWay) ) ?_
    rintro h_34 g_34 hJ2
    have hJ := hJ.tr (hJ2)
    refine ⟨fun c => ?_, fun c => ?_⟩
    · skip
      unfold j_X9_find_49
      refine c_v (p_X9_forget (hC.jj hJ nSWay) ) ?_
      rintro h_52 g_52 hJ2
      have hJ := hJ.tr (hJ2)
      rintro _ rfl
      exact hK1 _ ⟨hJ, rfl, rfl, trivial⟩ (dil_lt (by with_reducible assumption) (by decide))
    · skip
      refine c_v (p_X9_spread (hC.jj hJ nSWay) ) ?_
      rintro h_46 g_46 hJ2
      have hJ := hJ.tr (hJ2)
      unfold j_X9_find_49
      refine c_v (p_X9_forget (hC.jj hJ nSWay) ) ?_
      rintro h_52 g_52 hJ2
      have hJ := hJ.tr (hJ2)
      rintro _ rfl
      exact hK1 _ ⟨hJ, rfl, rfl, trivial⟩ (dil_lt (by with_reducible assumption) (by decide))
theorem p_X9_stepAt {h : HI} {g : HL} (hC : CI h) {x1 : Int32}   : w_X9_stepAt x1 h g (fun r h' g' => h = h' ∧ g = g') := by
  unfold w_X9_stepAt
  refine c_w (fun c c' => ?_) (fun c => ?_)
  · skip
    refine ⟨fun c => ?_, fun c => ?_⟩
    · exact absI c
    · skip
      exact ⟨rfl, rfl⟩
  · skip
    refine ⟨fun c => ?_, fun c => ?_⟩
    · skip
      exact ⟨rfl, rfl⟩
    · exact absN c
theorem p_X10_withRow {h : HI} {g : HL} (hC : CI h) {x0 : Int64} {o2 : Nat} {x3 : Int32} {x4 : Int32}  (hT : isT o2) : w_X10_withRow x0 o2 x3 x4 h g (fun r h' g' => h = h' ∧ g = g') := by
  unfold w_X10_withRow
  refine lpE_intro (fun ⟨x3_q, x4_q, x5_q, x7_q, h_q, g_q⟩ => x3 = x3_q ∧ x4 = x4_q ∧ h = h_q ∧ g = g_q ∧ True) (fun ⟨x3_q, x4_q, x5_q, x7_q, h_q, g_q⟩ => dif x4_q x7_q) ?_ _ ⟨rfl, rfl, rfl, rfl, trivial⟩
  rintro ⟨x3_1, x4_1, x5_1, x7_1, h_1, g_1⟩ K1 ⟨rfl, rfl, rfl, rfl, -⟩ hK1
  unfold F_X10_withRow_6; dsimp only; unfold b_X10_withRow_6
  refine ⟨fun c => ?_, fun c => ?_⟩
  · skip
    exact ⟨rfl, rfl⟩
  · skip
    refine c_i (p_at hC hT) ?_
    rintro _ _ _ ⟨rfl, rfl, rfl⟩
    rintro _ rfl
    rintro _ rfl
    exact hK1 _ ⟨rfl, rfl, rfl, rfl, trivial⟩ (dif_lt (by with_reducible assumption))
theorem p_X10_withTable {h : HI} {g : HL} (hC : CI h) {x0 : Int64} {o2 : Nat} {x3 : Int32}  (hT : isT o2) : w_X10_withTable x0 o2 x3 h g (fun r h' g' => h = h' ∧ g = g') := by
  unfold w_X10_withTable
  refine lpE_intro (fun ⟨x3_q, x4_q, x6_q, h_q, g_q⟩ => x3 = x3_q ∧ h = h_q ∧ g = g_q ∧ True) (fun ⟨x3_q, x4_q, x6_q, h_q, g_q⟩ => dif (h o2 3) x6_q) ?_ _ ⟨rfl, rfl, rfl, trivial⟩
  rintro ⟨x3_1, x4_1, x6_1, h_1, g_1⟩ K1 ⟨rfl, rfl, rfl, -⟩ hK1
  unfold F_X10_withTable_6; dsimp only; unfold b_X10_withTable_6
  refine c_i p_rows ?_
  rintro _ _ _ ⟨rfl, rfl, rfl⟩
  refine ⟨fun c => ?_, fun c => ?_⟩
  · skip
    exact ⟨rfl, rfl⟩
  · skip
    refine c_l (p_X10_withRow hC hT) ?_
    rintro r_21 _ _ ⟨rfl, rfl⟩
    rintro _ rfl
    exact hK1 _ ⟨rfl, rfl, rfl, trivial⟩ (dif_lt (by with_reducible assumption))
theorem p_X10_withChains {h : HI} {g : HL} (hC : CI h) {x1 : Int64}   : w_X10_withChains x1 h g (fun r h' g' => h = h' ∧ g = g') := by
  unfold w_X10_withChains
  refine lpE_intro (fun ⟨x3_q, x5_q, h_q, g_q⟩ => h = h_q ∧ g = g_q ∧ True) (fun ⟨x3_q, x5_q, h_q, g_q⟩ => dif (h 8 3) x5_q) ?_ _ ⟨rfl, rfl, trivial⟩
  rintro ⟨x3_1, x5_1, h_1, g_1⟩ K1 ⟨rfl, rfl, -⟩ hK1
  unfold F_X10_withChains_5; dsimp only; unfold b_X10_withChains_5
  refine c_i p_rows ?_
  rintro _ _ _ ⟨rfl, rfl, rfl⟩
  refine ⟨fun c => ?_, fun c => ?_⟩
  · skip
    exact ⟨rfl, rfl⟩
  · skip
    refine c_i (p_at hC gs_8) ?_
    rintro _ _ _ ⟨rfl, rfl, rfl⟩
    refine c_l (p_X10_withRow hC gs_8) ?_
    rintro r_47 _ _ ⟨rfl, rfl⟩
    rintro _ rfl
    exact hK1 _ ⟨rfl, rfl, trivial⟩ (dif_lt (by with_reducible assumption))
